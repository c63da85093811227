/-! Equations of instructions. By program. -/
section ZI
variable {E : zS} {d k k2 : Nat} {x y : Int32} {w u : Int64} {h : zH} {l0 l1 l2 l3 l4 l5 l6 l7 l8 l9 l10 l11 l12 l13 : Value}
theorem zp_102_0 : zP1 102 0 = some (.iload_n 1, 0, 0, 0) := zp_l zq_102 rfl
theorem zi_102_0 : rv E d 102 0 [l0, .int x] [] h = rv E d 102 1 [l0, .int x] [.int x] h := rv_loc zp_102_0 rfl rfl
theorem zp_102_1 : zP1 102 1 = some (.ifCond .lt 15, 0, 0, 0) := zp_l zq_102 rfl
theorem zi_102_1 : rv E d 102 1 [l0, l1] [.int x] h = if x < 0 then rv E d 102 16 [l0, l1] [] h else rv E d 102 4 [l0, l1] [] h := rv_ifc zp_102_1 rfl rfl
theorem zp_102_4 : zP1 102 4 = some (.iload_n 1, 0, 0, 0) := zp_l zq_102 rfl
theorem zi_102_4 : rv E d 102 4 [l0, .int x] [] h = rv E d 102 5 [l0, .int x] [.int x] h := rv_loc zp_102_4 rfl rfl
theorem zp_102_5 : zP1 102 5 = some (.aload_n 0, 0, 0, 0) := zp_l zq_102 rfl
theorem zi_102_5 {s0 : Int32} : rv E d 102 5 [.ref k, l1] [.int s0] h = rv E d 102 6 [.ref k, l1] [.ref k, .int s0] h := rv_loc zp_102_5 rfl rfl
theorem zp_102_6 : zP1 102 6 = some (.getfield 22, 7, 3, 0) := zp_r zq_102 rfl
theorem zi_102_6 {s1 : Int32} : rv E d 102 6 [l0, l1] [.ref k, .int s1] h = (zfl h k 7 3).bind (fun v => rv E d 102 9 [l0, l1] [v, .int s1] h) := rv_getf zp_102_6 (by decide)
theorem zp_102_9 : zP1 102 9 = some (.if_icmp .ge 7, 0, 0, 0) := zp_l zq_102 rfl
theorem zi_102_9 : rv E d 102 9 [l0, l1] [.int y, .int x] h = if y ≤ x then rv E d 102 16 [l0, l1] [] h else rv E d 102 12 [l0, l1] [] h := rv_icmp zp_102_9 rfl rfl
theorem zp_102_12 : zP1 102 12 = some (.iconst 1, 0, 0, 0) := zp_l zq_102 rfl
theorem zi_102_12 : rv E d 102 12 [l0, l1] [] h = rv E d 102 13 [l0, l1] [.int (nI 1)] h := rv_const zp_102_12 (by decide)
theorem zp_102_13 : zP1 102 13 = some (.goto 4, 0, 0, 0) := zp_l zq_102 rfl
theorem zi_102_13 {s0 : Int32} : rv E d 102 13 [l0, l1] [.int s0] h = rv E d 102 17 [l0, l1] [.int s0] h := rv_goto zp_102_13 rfl
theorem zp_102_16 : zP1 102 16 = some (.iconst 0, 0, 0, 0) := zp_l zq_102 rfl
theorem zi_102_16 : rv E d 102 16 [l0, l1] [] h = rv E d 102 17 [l0, l1] [.int (nI 0)] h := rv_const zp_102_16 (by decide)
theorem zp_102_17 : zP1 102 17 = some (.ireturn, 0, 0, 0) := zp_l zq_102 rfl
theorem zi_102_17 : rv E d 102 17 [l0, l1] [.int x] h = if narrow .boolean (.int x) = .int x then some (some (.int x), h) else none := rv_rets zp_102_17 (zM_of zq_102)
theorem zp_103_0 : zP1 103 0 = some (.aload_n 0, 0, 0, 0) := zp_l zq_103 rfl
theorem zi_103_0 : rv E d 103 0 [.ref k] [] h = rv E d 103 1 [.ref k] [.ref k] h := rv_loc zp_103_0 rfl rfl
theorem zp_103_1 : zP1 103 1 = some (.getfield 22, 7, 3, 0) := zp_r zq_103 rfl
theorem zi_103_1 : rv E d 103 1 [l0] [.ref k] h = (zfl h k 7 3).bind (fun v => rv E d 103 4 [l0] [v] h) := rv_getf zp_103_1 (by decide)
theorem zp_103_4 : zP1 103 4 = some (.aload_n 0, 0, 0, 0) := zp_l zq_103 rfl
theorem zi_103_4 {s0 : Int32} : rv E d 103 4 [.ref k] [.int s0] h = rv E d 103 5 [.ref k] [.ref k, .int s0] h := rv_loc zp_103_4 rfl rfl
theorem zp_103_5 : zP1 103 5 = some (.getfield 9, 7, 2, 0) := zp_r zq_103 rfl
theorem zi_103_5 {s1 : Int32} : rv E d 103 5 [l0] [.ref k, .int s1] h = (zfl h k 7 2).bind (fun v => rv E d 103 8 [l0] [v, .int s1] h) := rv_getf zp_103_5 (by decide)
theorem zp_103_8 : zP1 103 8 = some (.if_icmp .lt 7, 0, 0, 0) := zp_l zq_103 rfl
theorem zi_103_8 : rv E d 103 8 [l0] [.int y, .int x] h = if x < y then rv E d 103 15 [l0] [] h else rv E d 103 11 [l0] [] h := rv_icmp zp_103_8 rfl rfl
theorem zp_103_11 : zP1 103 11 = some (.iconst 1, 0, 0, 0) := zp_l zq_103 rfl
theorem zi_103_11 : rv E d 103 11 [l0] [] h = rv E d 103 12 [l0] [.int (nI 1)] h := rv_const zp_103_11 (by decide)
theorem zp_103_12 : zP1 103 12 = some (.goto 4, 0, 0, 0) := zp_l zq_103 rfl
theorem zi_103_12 {s0 : Int32} : rv E d 103 12 [l0] [.int s0] h = rv E d 103 16 [l0] [.int s0] h := rv_goto zp_103_12 rfl
theorem zp_103_15 : zP1 103 15 = some (.iconst 0, 0, 0, 0) := zp_l zq_103 rfl
theorem zi_103_15 : rv E d 103 15 [l0] [] h = rv E d 103 16 [l0] [.int (nI 0)] h := rv_const zp_103_15 (by decide)
theorem zp_103_16 : zP1 103 16 = some (.ireturn, 0, 0, 0) := zp_l zq_103 rfl
theorem zi_103_16 : rv E d 103 16 [l0] [.int x] h = if narrow .boolean (.int x) = .int x then some (some (.int x), h) else none := rv_rets zp_103_16 (zM_of zq_103)
theorem zp_104_0 : zP1 104 0 = some (.iload_n 1, 0, 0, 0) := zp_l zq_104 rfl
theorem zi_104_0 : rv E d 104 0 [l0, .int x, l2] [] h = rv E d 104 1 [l0, .int x, l2] [.int x] h := rv_loc zp_104_0 rfl rfl
theorem zp_104_1 : zP1 104 1 = some (.ifCond .lt 23, 0, 0, 0) := zp_l zq_104 rfl
theorem zi_104_1 : rv E d 104 1 [l0, l1, l2] [.int x] h = if x < 0 then rv E d 104 24 [l0, l1, l2] [] h else rv E d 104 4 [l0, l1, l2] [] h := rv_ifc zp_104_1 rfl rfl
theorem zp_104_4 : zP1 104 4 = some (.iload_n 1, 0, 0, 0) := zp_l zq_104 rfl
theorem zi_104_4 : rv E d 104 4 [l0, .int x, l2] [] h = rv E d 104 5 [l0, .int x, l2] [.int x] h := rv_loc zp_104_4 rfl rfl
theorem zp_104_5 : zP1 104 5 = some (.aload_n 0, 0, 0, 0) := zp_l zq_104 rfl
theorem zi_104_5 {s0 : Int32} : rv E d 104 5 [.ref k, l1, l2] [.int s0] h = rv E d 104 6 [.ref k, l1, l2] [.ref k, .int s0] h := rv_loc zp_104_5 rfl rfl
theorem zp_104_6 : zP1 104 6 = some (.getfield 22, 7, 3, 0) := zp_r zq_104 rfl
theorem zi_104_6 {s1 : Int32} : rv E d 104 6 [l0, l1, l2] [.ref k, .int s1] h = (zfl h k 7 3).bind (fun v => rv E d 104 9 [l0, l1, l2] [v, .int s1] h) := rv_getf zp_104_6 (by decide)
theorem zp_104_9 : zP1 104 9 = some (.if_icmp .ge 15, 0, 0, 0) := zp_l zq_104 rfl
theorem zi_104_9 : rv E d 104 9 [l0, l1, l2] [.int y, .int x] h = if y ≤ x then rv E d 104 24 [l0, l1, l2] [] h else rv E d 104 12 [l0, l1, l2] [] h := rv_icmp zp_104_9 rfl rfl
theorem zp_104_12 : zP1 104 12 = some (.iload_n 2, 0, 0, 0) := zp_l zq_104 rfl
theorem zi_104_12 : rv E d 104 12 [l0, l1, .int x] [] h = rv E d 104 13 [l0, l1, .int x] [.int x] h := rv_loc zp_104_12 rfl rfl
theorem zp_104_13 : zP1 104 13 = some (.ifCond .lt 11, 0, 0, 0) := zp_l zq_104 rfl
theorem zi_104_13 : rv E d 104 13 [l0, l1, l2] [.int x] h = if x < 0 then rv E d 104 24 [l0, l1, l2] [] h else rv E d 104 16 [l0, l1, l2] [] h := rv_ifc zp_104_13 rfl rfl
theorem zp_104_16 : zP1 104 16 = some (.iload_n 2, 0, 0, 0) := zp_l zq_104 rfl
theorem zi_104_16 : rv E d 104 16 [l0, l1, .int x] [] h = rv E d 104 17 [l0, l1, .int x] [.int x] h := rv_loc zp_104_16 rfl rfl
theorem zp_104_17 : zP1 104 17 = some (.aload_n 0, 0, 0, 0) := zp_l zq_104 rfl
theorem zi_104_17 {s0 : Int32} : rv E d 104 17 [.ref k, l1, l2] [.int s0] h = rv E d 104 18 [.ref k, l1, l2] [.ref k, .int s0] h := rv_loc zp_104_17 rfl rfl
theorem zp_104_18 : zP1 104 18 = some (.getfield 15, 7, 0, 0) := zp_r zq_104 rfl
theorem zi_104_18 {s1 : Int32} : rv E d 104 18 [l0, l1, l2] [.ref k, .int s1] h = (zfl h k 7 0).bind (fun v => rv E d 104 21 [l0, l1, l2] [v, .int s1] h) := rv_getf zp_104_18 (by decide)
theorem zp_104_21 : zP1 104 21 = some (.if_icmp .lt 6, 0, 0, 0) := zp_l zq_104 rfl
theorem zi_104_21 : rv E d 104 21 [l0, l1, l2] [.int y, .int x] h = if x < y then rv E d 104 27 [l0, l1, l2] [] h else rv E d 104 24 [l0, l1, l2] [] h := rv_icmp zp_104_21 rfl rfl
theorem zp_104_24 : zP1 104 24 = some (.bipush (-3), 0, 0, 0) := zp_l zq_104 rfl
theorem zi_104_24 : rv E d 104 24 [l0, l1, l2] [] h = rv E d 104 26 [l0, l1, l2] [.int (-3)] h := rv_bip zp_104_24 (by decide)
theorem zp_104_26 : zP1 104 26 = some (.ireturn, 0, 0, 0) := zp_l zq_104 rfl
theorem zi_104_26 : rv E d 104 26 [l0, l1, l2] [.int x] h = some (some (.int x), h) := rv_reti zp_104_26 (zM_of zq_104)
theorem zp_104_27 : zP1 104 27 = some (.aload_n 0, 0, 0, 0) := zp_l zq_104 rfl
theorem zi_104_27 : rv E d 104 27 [.ref k, l1, l2] [] h = rv E d 104 28 [.ref k, l1, l2] [.ref k] h := rv_loc zp_104_27 rfl rfl
theorem zp_104_28 : zP1 104 28 = some (.getfield 18, 7, 1, 0) := zp_r zq_104 rfl
theorem zi_104_28 : rv E d 104 28 [l0, l1, l2] [.ref k] h = (zfl h k 7 1).bind (fun v => rv E d 104 31 [l0, l1, l2] [v] h) := rv_getf zp_104_28 (by decide)
theorem zp_104_31 : zP1 104 31 = some (.iload_n 1, 0, 0, 0) := zp_l zq_104 rfl
theorem zi_104_31 {s0 : Nat} : rv E d 104 31 [l0, .int x, l2] [.ref s0] h = rv E d 104 32 [l0, .int x, l2] [.int x, .ref s0] h := rv_loc zp_104_31 rfl rfl
theorem zp_104_32 : zP1 104 32 = some (.aload_n 0, 0, 0, 0) := zp_l zq_104 rfl
theorem zi_104_32 {s0 : Int32} {s1 : Nat} : rv E d 104 32 [.ref k, l1, l2] [.int s0, .ref s1] h = rv E d 104 33 [.ref k, l1, l2] [.ref k, .int s0, .ref s1] h := rv_loc zp_104_32 rfl rfl
theorem zp_104_33 : zP1 104 33 = some (.getfield 15, 7, 0, 0) := zp_r zq_104 rfl
theorem zi_104_33 {s1 : Int32} {s2 : Nat} : rv E d 104 33 [l0, l1, l2] [.ref k, .int s1, .ref s2] h = (zfl h k 7 0).bind (fun v => rv E d 104 36 [l0, l1, l2] [v, .int s1, .ref s2] h) := rv_getf zp_104_33 (by decide)
theorem zp_104_36 : zP1 104 36 = some (.imul, 0, 0, 0) := zp_l zq_104 rfl
theorem zi_104_36 {s2 : Nat} : rv E d 104 36 [l0, l1, l2] [.int y, .int x, .ref s2] h = rv E d 104 37 [l0, l1, l2] [.int (x * y), .ref s2] h := rv_stk zp_104_36 rfl rfl
theorem zp_104_37 : zP1 104 37 = some (.iload_n 2, 0, 0, 0) := zp_l zq_104 rfl
theorem zi_104_37 {s0 : Int32} {s1 : Nat} : rv E d 104 37 [l0, l1, .int x] [.int s0, .ref s1] h = rv E d 104 38 [l0, l1, .int x] [.int x, .int s0, .ref s1] h := rv_loc zp_104_37 rfl rfl
theorem zp_104_38 : zP1 104 38 = some (.iadd, 0, 0, 0) := zp_l zq_104 rfl
theorem zi_104_38 {s2 : Nat} : rv E d 104 38 [l0, l1, l2] [.int y, .int x, .ref s2] h = rv E d 104 39 [l0, l1, l2] [.int (x + y), .ref s2] h := rv_stk zp_104_38 rfl rfl
theorem zp_104_39 : zP1 104 39 = some (.iaload, 0, 0, 0) := zp_l zq_104 rfl
theorem zi_104_39 : rv E d 104 39 [l0, l1, l2] [.int x, .ref k] h = (zgi E h k x 0).bind (fun y => rv E d 104 40 [l0, l1, l2] [.int y] h) := rv_ald (Or.inl ⟨rfl, rfl⟩) zp_104_39
theorem zp_104_40 : zP1 104 40 = some (.ireturn, 0, 0, 0) := zp_l zq_104 rfl
theorem zi_104_40 : rv E d 104 40 [l0, l1, l2] [.int x] h = some (some (.int x), h) := rv_reti zp_104_40 (zM_of zq_104)
theorem zp_105_0 : zP1 105 0 = some (.iload_n 1, 0, 0, 0) := zp_l zq_105 rfl
theorem zi_105_0 : rv E d 105 0 [l0, .int x, l2, l3] [] h = rv E d 105 1 [l0, .int x, l2, l3] [.int x] h := rv_loc zp_105_0 rfl rfl
theorem zp_105_1 : zP1 105 1 = some (.ifCond .lt 23, 0, 0, 0) := zp_l zq_105 rfl
theorem zi_105_1 : rv E d 105 1 [l0, l1, l2, l3] [.int x] h = if x < 0 then rv E d 105 24 [l0, l1, l2, l3] [] h else rv E d 105 4 [l0, l1, l2, l3] [] h := rv_ifc zp_105_1 rfl rfl
theorem zp_105_4 : zP1 105 4 = some (.iload_n 1, 0, 0, 0) := zp_l zq_105 rfl
theorem zi_105_4 : rv E d 105 4 [l0, .int x, l2, l3] [] h = rv E d 105 5 [l0, .int x, l2, l3] [.int x] h := rv_loc zp_105_4 rfl rfl
theorem zp_105_5 : zP1 105 5 = some (.aload_n 0, 0, 0, 0) := zp_l zq_105 rfl
theorem zi_105_5 {s0 : Int32} : rv E d 105 5 [.ref k, l1, l2, l3] [.int s0] h = rv E d 105 6 [.ref k, l1, l2, l3] [.ref k, .int s0] h := rv_loc zp_105_5 rfl rfl
theorem zp_105_6 : zP1 105 6 = some (.getfield 22, 7, 3, 0) := zp_r zq_105 rfl
theorem zi_105_6 {s1 : Int32} : rv E d 105 6 [l0, l1, l2, l3] [.ref k, .int s1] h = (zfl h k 7 3).bind (fun v => rv E d 105 9 [l0, l1, l2, l3] [v, .int s1] h) := rv_getf zp_105_6 (by decide)
theorem zp_105_9 : zP1 105 9 = some (.if_icmp .ge 15, 0, 0, 0) := zp_l zq_105 rfl
theorem zi_105_9 : rv E d 105 9 [l0, l1, l2, l3] [.int y, .int x] h = if y ≤ x then rv E d 105 24 [l0, l1, l2, l3] [] h else rv E d 105 12 [l0, l1, l2, l3] [] h := rv_icmp zp_105_9 rfl rfl
theorem zp_105_12 : zP1 105 12 = some (.iload_n 2, 0, 0, 0) := zp_l zq_105 rfl
theorem zi_105_12 : rv E d 105 12 [l0, l1, .int x, l3] [] h = rv E d 105 13 [l0, l1, .int x, l3] [.int x] h := rv_loc zp_105_12 rfl rfl
theorem zp_105_13 : zP1 105 13 = some (.ifCond .lt 11, 0, 0, 0) := zp_l zq_105 rfl
theorem zi_105_13 : rv E d 105 13 [l0, l1, l2, l3] [.int x] h = if x < 0 then rv E d 105 24 [l0, l1, l2, l3] [] h else rv E d 105 16 [l0, l1, l2, l3] [] h := rv_ifc zp_105_13 rfl rfl
theorem zp_105_16 : zP1 105 16 = some (.iload_n 2, 0, 0, 0) := zp_l zq_105 rfl
theorem zi_105_16 : rv E d 105 16 [l0, l1, .int x, l3] [] h = rv E d 105 17 [l0, l1, .int x, l3] [.int x] h := rv_loc zp_105_16 rfl rfl
theorem zp_105_17 : zP1 105 17 = some (.aload_n 0, 0, 0, 0) := zp_l zq_105 rfl
theorem zi_105_17 {s0 : Int32} : rv E d 105 17 [.ref k, l1, l2, l3] [.int s0] h = rv E d 105 18 [.ref k, l1, l2, l3] [.ref k, .int s0] h := rv_loc zp_105_17 rfl rfl
theorem zp_105_18 : zP1 105 18 = some (.getfield 15, 7, 0, 0) := zp_r zq_105 rfl
theorem zi_105_18 {s1 : Int32} : rv E d 105 18 [l0, l1, l2, l3] [.ref k, .int s1] h = (zfl h k 7 0).bind (fun v => rv E d 105 21 [l0, l1, l2, l3] [v, .int s1] h) := rv_getf zp_105_18 (by decide)
theorem zp_105_21 : zP1 105 21 = some (.if_icmp .lt 4, 0, 0, 0) := zp_l zq_105 rfl
theorem zi_105_21 : rv E d 105 21 [l0, l1, l2, l3] [.int y, .int x] h = if x < y then rv E d 105 25 [l0, l1, l2, l3] [] h else rv E d 105 24 [l0, l1, l2, l3] [] h := rv_icmp zp_105_21 rfl rfl
theorem zp_105_24 : zP1 105 24 = some (.return_, 0, 0, 0) := zp_l zq_105 rfl
theorem zi_105_24 : rv E d 105 24 [l0, l1, l2, l3] [] h = some (none, h) := rv_retv zp_105_24 (zM_of zq_105)
theorem zp_105_25 : zP1 105 25 = some (.aload_n 0, 0, 0, 0) := zp_l zq_105 rfl
theorem zi_105_25 : rv E d 105 25 [.ref k, l1, l2, l3] [] h = rv E d 105 26 [.ref k, l1, l2, l3] [.ref k] h := rv_loc zp_105_25 rfl rfl
theorem zp_105_26 : zP1 105 26 = some (.getfield 18, 7, 1, 0) := zp_r zq_105 rfl
theorem zi_105_26 : rv E d 105 26 [l0, l1, l2, l3] [.ref k] h = (zfl h k 7 1).bind (fun v => rv E d 105 29 [l0, l1, l2, l3] [v] h) := rv_getf zp_105_26 (by decide)
theorem zp_105_29 : zP1 105 29 = some (.iload_n 1, 0, 0, 0) := zp_l zq_105 rfl
theorem zi_105_29 {s0 : Nat} : rv E d 105 29 [l0, .int x, l2, l3] [.ref s0] h = rv E d 105 30 [l0, .int x, l2, l3] [.int x, .ref s0] h := rv_loc zp_105_29 rfl rfl
theorem zp_105_30 : zP1 105 30 = some (.aload_n 0, 0, 0, 0) := zp_l zq_105 rfl
theorem zi_105_30 {s0 : Int32} {s1 : Nat} : rv E d 105 30 [.ref k, l1, l2, l3] [.int s0, .ref s1] h = rv E d 105 31 [.ref k, l1, l2, l3] [.ref k, .int s0, .ref s1] h := rv_loc zp_105_30 rfl rfl
theorem zp_105_31 : zP1 105 31 = some (.getfield 15, 7, 0, 0) := zp_r zq_105 rfl
theorem zi_105_31 {s1 : Int32} {s2 : Nat} : rv E d 105 31 [l0, l1, l2, l3] [.ref k, .int s1, .ref s2] h = (zfl h k 7 0).bind (fun v => rv E d 105 34 [l0, l1, l2, l3] [v, .int s1, .ref s2] h) := rv_getf zp_105_31 (by decide)
theorem zp_105_34 : zP1 105 34 = some (.imul, 0, 0, 0) := zp_l zq_105 rfl
theorem zi_105_34 {s2 : Nat} : rv E d 105 34 [l0, l1, l2, l3] [.int y, .int x, .ref s2] h = rv E d 105 35 [l0, l1, l2, l3] [.int (x * y), .ref s2] h := rv_stk zp_105_34 rfl rfl
theorem zp_105_35 : zP1 105 35 = some (.iload_n 2, 0, 0, 0) := zp_l zq_105 rfl
theorem zi_105_35 {s0 : Int32} {s1 : Nat} : rv E d 105 35 [l0, l1, .int x, l3] [.int s0, .ref s1] h = rv E d 105 36 [l0, l1, .int x, l3] [.int x, .int s0, .ref s1] h := rv_loc zp_105_35 rfl rfl
theorem zp_105_36 : zP1 105 36 = some (.iadd, 0, 0, 0) := zp_l zq_105 rfl
theorem zi_105_36 {s2 : Nat} : rv E d 105 36 [l0, l1, l2, l3] [.int y, .int x, .ref s2] h = rv E d 105 37 [l0, l1, l2, l3] [.int (x + y), .ref s2] h := rv_stk zp_105_36 rfl rfl
theorem zp_105_37 : zP1 105 37 = some (.iload_n 3, 0, 0, 0) := zp_l zq_105 rfl
theorem zi_105_37 {s0 : Int32} {s1 : Nat} : rv E d 105 37 [l0, l1, l2, .int x] [.int s0, .ref s1] h = rv E d 105 38 [l0, l1, l2, .int x] [.int x, .int s0, .ref s1] h := rv_loc zp_105_37 rfl rfl
theorem zp_105_38 : zP1 105 38 = some (.iastore, 0, 0, 0) := zp_l zq_105 rfl
theorem zi_105_38 : rv E d 105 38 [l0, l1, l2, l3] [.int y, .int x, .ref k] h = (zsi h k x y 0).bind (fun h2 => rv E d 105 39 [l0, l1, l2, l3] [] h2) := rv_ast (Or.inl ⟨rfl, rfl⟩) zp_105_38
theorem zp_105_39 : zP1 105 39 = some (.return_, 0, 0, 0) := zp_l zq_105 rfl
theorem zi_105_39 : rv E d 105 39 [l0, l1, l2, l3] [] h = some (none, h) := rv_retv zp_105_39 (zM_of zq_105)
theorem zp_106_0 : zP1 106 0 = some (.aload_n 0, 0, 0, 0) := zp_l zq_106 rfl
theorem zi_106_0 : rv E d 106 0 [.ref k, l1] [] h = rv E d 106 1 [.ref k, l1] [.ref k] h := rv_loc zp_106_0 rfl rfl
theorem zp_106_1 : zP1 106 1 = some (.getfield 22, 7, 3, 0) := zp_r zq_106 rfl
theorem zi_106_1 : rv E d 106 1 [l0, l1] [.ref k] h = (zfl h k 7 3).bind (fun v => rv E d 106 4 [l0, l1] [v] h) := rv_getf zp_106_1 (by decide)
theorem zp_106_4 : zP1 106 4 = some (.aload_n 0, 0, 0, 0) := zp_l zq_106 rfl
theorem zi_106_4 {s0 : Int32} : rv E d 106 4 [.ref k, l1] [.int s0] h = rv E d 106 5 [.ref k, l1] [.ref k, .int s0] h := rv_loc zp_106_4 rfl rfl
theorem zp_106_5 : zP1 106 5 = some (.getfield 9, 7, 2, 0) := zp_r zq_106 rfl
theorem zi_106_5 {s1 : Int32} : rv E d 106 5 [l0, l1] [.ref k, .int s1] h = (zfl h k 7 2).bind (fun v => rv E d 106 8 [l0, l1] [v, .int s1] h) := rv_getf zp_106_5 (by decide)
theorem zp_106_8 : zP1 106 8 = some (.if_icmp .lt 6, 0, 0, 0) := zp_l zq_106 rfl
theorem zi_106_8 : rv E d 106 8 [l0, l1] [.int y, .int x] h = if x < y then rv E d 106 14 [l0, l1] [] h else rv E d 106 11 [l0, l1] [] h := rv_icmp zp_106_8 rfl rfl
theorem zp_106_11 : zP1 106 11 = some (.bipush (-2), 0, 0, 0) := zp_l zq_106 rfl
theorem zi_106_11 : rv E d 106 11 [l0, l1] [] h = rv E d 106 13 [l0, l1] [.int (-2)] h := rv_bip zp_106_11 (by decide)
theorem zp_106_13 : zP1 106 13 = some (.ireturn, 0, 0, 0) := zp_l zq_106 rfl
theorem zi_106_13 : rv E d 106 13 [l0, l1] [.int x] h = some (some (.int x), h) := rv_reti zp_106_13 (zM_of zq_106)
theorem zp_106_14 : zP1 106 14 = some (.iconst 0, 0, 0, 0) := zp_l zq_106 rfl
theorem zi_106_14 : rv E d 106 14 [l0, l1] [] h = rv E d 106 15 [l0, l1] [.int (nI 0)] h := rv_const zp_106_14 (by decide)
theorem zp_106_15 : zP1 106 15 = some (.istore_n 1, 0, 0, 0) := zp_l zq_106 rfl
theorem zi_106_15 (hc : l0.category = 1) : rv E d 106 15 [l0, l1] [.int x] h = rv E d 106 16 [l0, .int x] [] h := rv_sto (i := 1) (t := 0) zp_106_15 rfl rfl (by simp [zsto, zlong, hc])
theorem zp_106_16 : zP1 106 16 = some (.iload_n 1, 0, 0, 0) := zp_l zq_106 rfl
theorem zi_106_16 : rv E d 106 16 [l0, .int x] [] h = rv E d 106 17 [l0, .int x] [.int x] h := rv_loc zp_106_16 rfl rfl
theorem zp_106_17 : zP1 106 17 = some (.aload_n 0, 0, 0, 0) := zp_l zq_106 rfl
theorem zi_106_17 {s0 : Int32} : rv E d 106 17 [.ref k, l1] [.int s0] h = rv E d 106 18 [.ref k, l1] [.ref k, .int s0] h := rv_loc zp_106_17 rfl rfl
theorem zp_106_18 : zP1 106 18 = some (.getfield 15, 7, 0, 0) := zp_r zq_106 rfl
theorem zi_106_18 {s1 : Int32} : rv E d 106 18 [l0, l1] [.ref k, .int s1] h = (zfl h k 7 0).bind (fun v => rv E d 106 21 [l0, l1] [v, .int s1] h) := rv_getf zp_106_18 (by decide)
theorem zp_106_21 : zP1 106 21 = some (.if_icmp .ge 26, 0, 0, 0) := zp_l zq_106 rfl
theorem zi_106_21 : rv E d 106 21 [l0, l1] [.int y, .int x] h = if y ≤ x then rv E d 106 47 [l0, l1] [] h else rv E d 106 24 [l0, l1] [] h := rv_icmp zp_106_21 rfl rfl
theorem zp_106_24 : zP1 106 24 = some (.aload_n 0, 0, 0, 0) := zp_l zq_106 rfl
theorem zi_106_24 : rv E d 106 24 [.ref k, l1] [] h = rv E d 106 25 [.ref k, l1] [.ref k] h := rv_loc zp_106_24 rfl rfl
theorem zp_106_25 : zP1 106 25 = some (.getfield 18, 7, 1, 0) := zp_r zq_106 rfl
theorem zi_106_25 : rv E d 106 25 [l0, l1] [.ref k] h = (zfl h k 7 1).bind (fun v => rv E d 106 28 [l0, l1] [v] h) := rv_getf zp_106_25 (by decide)
theorem zp_106_28 : zP1 106 28 = some (.aload_n 0, 0, 0, 0) := zp_l zq_106 rfl
theorem zi_106_28 {s0 : Nat} : rv E d 106 28 [.ref k, l1] [.ref s0] h = rv E d 106 29 [.ref k, l1] [.ref k, .ref s0] h := rv_loc zp_106_28 rfl rfl
theorem zp_106_29 : zP1 106 29 = some (.getfield 22, 7, 3, 0) := zp_r zq_106 rfl
theorem zi_106_29 {s1 : Nat} : rv E d 106 29 [l0, l1] [.ref k, .ref s1] h = (zfl h k 7 3).bind (fun v => rv E d 106 32 [l0, l1] [v, .ref s1] h) := rv_getf zp_106_29 (by decide)
theorem zp_106_32 : zP1 106 32 = some (.aload_n 0, 0, 0, 0) := zp_l zq_106 rfl
theorem zi_106_32 {s0 : Int32} {s1 : Nat} : rv E d 106 32 [.ref k, l1] [.int s0, .ref s1] h = rv E d 106 33 [.ref k, l1] [.ref k, .int s0, .ref s1] h := rv_loc zp_106_32 rfl rfl
theorem zp_106_33 : zP1 106 33 = some (.getfield 15, 7, 0, 0) := zp_r zq_106 rfl
theorem zi_106_33 {s1 : Int32} {s2 : Nat} : rv E d 106 33 [l0, l1] [.ref k, .int s1, .ref s2] h = (zfl h k 7 0).bind (fun v => rv E d 106 36 [l0, l1] [v, .int s1, .ref s2] h) := rv_getf zp_106_33 (by decide)
theorem zp_106_36 : zP1 106 36 = some (.imul, 0, 0, 0) := zp_l zq_106 rfl
theorem zi_106_36 {s2 : Nat} : rv E d 106 36 [l0, l1] [.int y, .int x, .ref s2] h = rv E d 106 37 [l0, l1] [.int (x * y), .ref s2] h := rv_stk zp_106_36 rfl rfl
theorem zp_106_37 : zP1 106 37 = some (.iload_n 1, 0, 0, 0) := zp_l zq_106 rfl
theorem zi_106_37 {s0 : Int32} {s1 : Nat} : rv E d 106 37 [l0, .int x] [.int s0, .ref s1] h = rv E d 106 38 [l0, .int x] [.int x, .int s0, .ref s1] h := rv_loc zp_106_37 rfl rfl
theorem zp_106_38 : zP1 106 38 = some (.iadd, 0, 0, 0) := zp_l zq_106 rfl
theorem zi_106_38 {s2 : Nat} : rv E d 106 38 [l0, l1] [.int y, .int x, .ref s2] h = rv E d 106 39 [l0, l1] [.int (x + y), .ref s2] h := rv_stk zp_106_38 rfl rfl
theorem zp_106_39 : zP1 106 39 = some (.iconst 0, 0, 0, 0) := zp_l zq_106 rfl
theorem zi_106_39 {s0 : Int32} {s1 : Nat} : rv E d 106 39 [l0, l1] [.int s0, .ref s1] h = rv E d 106 40 [l0, l1] [.int (nI 0), .int s0, .ref s1] h := rv_const zp_106_39 (by decide)
theorem zp_106_40 : zP1 106 40 = some (.iastore, 0, 0, 0) := zp_l zq_106 rfl
theorem zi_106_40 : rv E d 106 40 [l0, l1] [.int y, .int x, .ref k] h = (zsi h k x y 0).bind (fun h2 => rv E d 106 41 [l0, l1] [] h2) := rv_ast (Or.inl ⟨rfl, rfl⟩) zp_106_40
theorem zp_106_41 : zP1 106 41 = some (.iinc 1 1, 0, 0, 0) := zp_l zq_106 rfl
theorem zi_106_41 (hc : l0.category = 1) : rv E d 106 41 [l0, .int x] [] h = rv E d 106 44 [l0, .int (x + (nI 1))] [] h := rv_inc zp_106_41 (by simp [zinc, zlong, hc]; try decide)
theorem zp_106_44 : zP1 106 44 = some (.goto (-28), 0, 0, 0) := zp_l zq_106 rfl
theorem zi_106_44 : rv E d 106 44 [l0, l1] [] h = rv E d 106 16 [l0, l1] [] h := rv_goto zp_106_44 rfl
theorem zp_106_47 : zP1 106 47 = some (.aload_n 0, 0, 0, 0) := zp_l zq_106 rfl
theorem zi_106_47 : rv E d 106 47 [.ref k, l1] [] h = rv E d 106 48 [.ref k, l1] [.ref k] h := rv_loc zp_106_47 rfl rfl
theorem zp_106_48 : zP1 106 48 = some (.dup, 0, 0, 0) := zp_l zq_106 rfl
theorem zi_106_48 {s0 : Nat} : rv E d 106 48 [l0, l1] [.ref s0] h = rv E d 106 49 [l0, l1] [.ref s0, .ref s0] h := rv_stk zp_106_48 rfl rfl
theorem zp_106_49 : zP1 106 49 = some (.getfield 22, 7, 3, 0) := zp_r zq_106 rfl
theorem zi_106_49 {s1 : Nat} : rv E d 106 49 [l0, l1] [.ref k, .ref s1] h = (zfl h k 7 3).bind (fun v => rv E d 106 52 [l0, l1] [v, .ref s1] h) := rv_getf zp_106_49 (by decide)
theorem zp_106_52 : zP1 106 52 = some (.iconst 1, 0, 0, 0) := zp_l zq_106 rfl
theorem zi_106_52 {s0 : Int32} {s1 : Nat} : rv E d 106 52 [l0, l1] [.int s0, .ref s1] h = rv E d 106 53 [l0, l1] [.int (nI 1), .int s0, .ref s1] h := rv_const zp_106_52 (by decide)
theorem zp_106_53 : zP1 106 53 = some (.iadd, 0, 0, 0) := zp_l zq_106 rfl
theorem zi_106_53 {s2 : Nat} : rv E d 106 53 [l0, l1] [.int y, .int x, .ref s2] h = rv E d 106 54 [l0, l1] [.int (x + y), .ref s2] h := rv_stk zp_106_53 rfl rfl
theorem zp_106_54 : zP1 106 54 = some (.putfield 22, 7, 3, 0) := zp_r zq_106 rfl
theorem zi_106_54 {s0 : Int32} : rv E d 106 54 [l0, l1] [.int s0, .ref k] h = (zsf h k 7 3 0 (.int s0)).bind (fun h2 => rv E d 106 57 [l0, l1] [] h2) := rv_putf zp_106_54
theorem zp_106_57 : zP1 106 57 = some (.aload_n 0, 0, 0, 0) := zp_l zq_106 rfl
theorem zi_106_57 : rv E d 106 57 [.ref k, l1] [] h = rv E d 106 58 [.ref k, l1] [.ref k] h := rv_loc zp_106_57 rfl rfl
theorem zp_106_58 : zP1 106 58 = some (.getfield 22, 7, 3, 0) := zp_r zq_106 rfl
theorem zi_106_58 : rv E d 106 58 [l0, l1] [.ref k] h = (zfl h k 7 3).bind (fun v => rv E d 106 61 [l0, l1] [v] h) := rv_getf zp_106_58 (by decide)
theorem zp_106_61 : zP1 106 61 = some (.iconst 1, 0, 0, 0) := zp_l zq_106 rfl
theorem zi_106_61 {s0 : Int32} : rv E d 106 61 [l0, l1] [.int s0] h = rv E d 106 62 [l0, l1] [.int (nI 1), .int s0] h := rv_const zp_106_61 (by decide)
theorem zp_106_62 : zP1 106 62 = some (.isub, 0, 0, 0) := zp_l zq_106 rfl
theorem zi_106_62 : rv E d 106 62 [l0, l1] [.int y, .int x] h = rv E d 106 63 [l0, l1] [.int (x - y)] h := rv_stk zp_106_62 rfl rfl
theorem zp_106_63 : zP1 106 63 = some (.ireturn, 0, 0, 0) := zp_l zq_106 rfl
theorem zi_106_63 : rv E d 106 63 [l0, l1] [.int x] h = some (some (.int x), h) := rv_reti zp_106_63 (zM_of zq_106)
theorem zp_107_0 : zP1 107 0 = some (.iconst 0, 0, 0, 0) := zp_l zq_107 rfl
theorem zi_107_0 : rv E d 107 0 [l0, l1, l2] [] h = rv E d 107 1 [l0, l1, l2] [.int (nI 0)] h := rv_const zp_107_0 (by decide)
theorem zp_107_1 : zP1 107 1 = some (.istore_n 2, 0, 0, 0) := zp_l zq_107 rfl
theorem zi_107_1 (hc : l1.category = 1) : rv E d 107 1 [l0, l1, l2] [.int x] h = rv E d 107 2 [l0, l1, .int x] [] h := rv_sto (i := 2) (t := 0) zp_107_1 rfl rfl (by simp [zsto, zlong, hc])
theorem zp_107_2 : zP1 107 2 = some (.iload_n 2, 0, 0, 0) := zp_l zq_107 rfl
theorem zi_107_2 : rv E d 107 2 [l0, l1, .int x] [] h = rv E d 107 3 [l0, l1, .int x] [.int x] h := rv_loc zp_107_2 rfl rfl
theorem zp_107_3 : zP1 107 3 = some (.aload_n 0, 0, 0, 0) := zp_l zq_107 rfl
theorem zi_107_3 {s0 : Int32} : rv E d 107 3 [.ref k, l1, l2] [.int s0] h = rv E d 107 4 [.ref k, l1, l2] [.ref k, .int s0] h := rv_loc zp_107_3 rfl rfl
theorem zp_107_4 : zP1 107 4 = some (.getfield 22, 7, 3, 0) := zp_r zq_107 rfl
theorem zi_107_4 {s1 : Int32} : rv E d 107 4 [l0, l1, l2] [.ref k, .int s1] h = (zfl h k 7 3).bind (fun v => rv E d 107 7 [l0, l1, l2] [v, .int s1] h) := rv_getf zp_107_4 (by decide)
theorem zp_107_7 : zP1 107 7 = some (.if_icmp .ge 28, 0, 0, 0) := zp_l zq_107 rfl
theorem zi_107_7 : rv E d 107 7 [l0, l1, l2] [.int y, .int x] h = if y ≤ x then rv E d 107 35 [l0, l1, l2] [] h else rv E d 107 10 [l0, l1, l2] [] h := rv_icmp zp_107_7 rfl rfl
theorem zp_107_10 : zP1 107 10 = some (.aload_n 0, 0, 0, 0) := zp_l zq_107 rfl
theorem zi_107_10 : rv E d 107 10 [.ref k, l1, l2] [] h = rv E d 107 11 [.ref k, l1, l2] [.ref k] h := rv_loc zp_107_10 rfl rfl
theorem zp_107_11 : zP1 107 11 = some (.getfield 18, 7, 1, 0) := zp_r zq_107 rfl
theorem zi_107_11 : rv E d 107 11 [l0, l1, l2] [.ref k] h = (zfl h k 7 1).bind (fun v => rv E d 107 14 [l0, l1, l2] [v] h) := rv_getf zp_107_11 (by decide)
theorem zp_107_14 : zP1 107 14 = some (.iload_n 2, 0, 0, 0) := zp_l zq_107 rfl
theorem zi_107_14 {s0 : Nat} : rv E d 107 14 [l0, l1, .int x] [.ref s0] h = rv E d 107 15 [l0, l1, .int x] [.int x, .ref s0] h := rv_loc zp_107_14 rfl rfl
theorem zp_107_15 : zP1 107 15 = some (.aload_n 0, 0, 0, 0) := zp_l zq_107 rfl
theorem zi_107_15 {s0 : Int32} {s1 : Nat} : rv E d 107 15 [.ref k, l1, l2] [.int s0, .ref s1] h = rv E d 107 16 [.ref k, l1, l2] [.ref k, .int s0, .ref s1] h := rv_loc zp_107_15 rfl rfl
theorem zp_107_16 : zP1 107 16 = some (.getfield 15, 7, 0, 0) := zp_r zq_107 rfl
theorem zi_107_16 {s1 : Int32} {s2 : Nat} : rv E d 107 16 [l0, l1, l2] [.ref k, .int s1, .ref s2] h = (zfl h k 7 0).bind (fun v => rv E d 107 19 [l0, l1, l2] [v, .int s1, .ref s2] h) := rv_getf zp_107_16 (by decide)
theorem zp_107_19 : zP1 107 19 = some (.imul, 0, 0, 0) := zp_l zq_107 rfl
theorem zi_107_19 {s2 : Nat} : rv E d 107 19 [l0, l1, l2] [.int y, .int x, .ref s2] h = rv E d 107 20 [l0, l1, l2] [.int (x * y), .ref s2] h := rv_stk zp_107_19 rfl rfl
theorem zp_107_20 : zP1 107 20 = some (.iconst 0, 0, 0, 0) := zp_l zq_107 rfl
theorem zi_107_20 {s0 : Int32} {s1 : Nat} : rv E d 107 20 [l0, l1, l2] [.int s0, .ref s1] h = rv E d 107 21 [l0, l1, l2] [.int (nI 0), .int s0, .ref s1] h := rv_const zp_107_20 (by decide)
theorem zp_107_21 : zP1 107 21 = some (.iadd, 0, 0, 0) := zp_l zq_107 rfl
theorem zi_107_21 {s2 : Nat} : rv E d 107 21 [l0, l1, l2] [.int y, .int x, .ref s2] h = rv E d 107 22 [l0, l1, l2] [.int (x + y), .ref s2] h := rv_stk zp_107_21 rfl rfl
theorem zp_107_22 : zP1 107 22 = some (.iaload, 0, 0, 0) := zp_l zq_107 rfl
theorem zi_107_22 : rv E d 107 22 [l0, l1, l2] [.int x, .ref k] h = (zgi E h k x 0).bind (fun y => rv E d 107 23 [l0, l1, l2] [.int y] h) := rv_ald (Or.inl ⟨rfl, rfl⟩) zp_107_22
theorem zp_107_23 : zP1 107 23 = some (.iload_n 1, 0, 0, 0) := zp_l zq_107 rfl
theorem zi_107_23 {s0 : Int32} : rv E d 107 23 [l0, .int x, l2] [.int s0] h = rv E d 107 24 [l0, .int x, l2] [.int x, .int s0] h := rv_loc zp_107_23 rfl rfl
theorem zp_107_24 : zP1 107 24 = some (.if_icmp .ne 5, 0, 0, 0) := zp_l zq_107 rfl
theorem zi_107_24 : rv E d 107 24 [l0, l1, l2] [.int y, .int x] h = if ¬ x = y then rv E d 107 29 [l0, l1, l2] [] h else rv E d 107 27 [l0, l1, l2] [] h := rv_icmp zp_107_24 rfl rfl
theorem zp_107_27 : zP1 107 27 = some (.iconst 1, 0, 0, 0) := zp_l zq_107 rfl
theorem zi_107_27 : rv E d 107 27 [l0, l1, l2] [] h = rv E d 107 28 [l0, l1, l2] [.int (nI 1)] h := rv_const zp_107_27 (by decide)
theorem zp_107_28 : zP1 107 28 = some (.ireturn, 0, 0, 0) := zp_l zq_107 rfl
theorem zi_107_28 : rv E d 107 28 [l0, l1, l2] [.int x] h = if narrow .boolean (.int x) = .int x then some (some (.int x), h) else none := rv_rets zp_107_28 (zM_of zq_107)
theorem zp_107_29 : zP1 107 29 = some (.iinc 2 1, 0, 0, 0) := zp_l zq_107 rfl
theorem zi_107_29 (hc : l1.category = 1) : rv E d 107 29 [l0, l1, .int x] [] h = rv E d 107 32 [l0, l1, .int (x + (nI 1))] [] h := rv_inc zp_107_29 (by simp [zinc, zlong, hc]; try decide)
theorem zp_107_32 : zP1 107 32 = some (.goto (-30), 0, 0, 0) := zp_l zq_107 rfl
theorem zi_107_32 : rv E d 107 32 [l0, l1, l2] [] h = rv E d 107 2 [l0, l1, l2] [] h := rv_goto zp_107_32 rfl
theorem zp_107_35 : zP1 107 35 = some (.iconst 0, 0, 0, 0) := zp_l zq_107 rfl
theorem zi_107_35 : rv E d 107 35 [l0, l1, l2] [] h = rv E d 107 36 [l0, l1, l2] [.int (nI 0)] h := rv_const zp_107_35 (by decide)
theorem zp_107_36 : zP1 107 36 = some (.ireturn, 0, 0, 0) := zp_l zq_107 rfl
theorem zi_107_36 : rv E d 107 36 [l0, l1, l2] [.int x] h = if narrow .boolean (.int x) = .int x then some (some (.int x), h) else none := rv_rets zp_107_36 (zM_of zq_107)
theorem zp_108_0 : zP1 108 0 = some (.aload_n 1, 0, 0, 0) := zp_l zq_108 rfl
theorem zi_108_0 : rv E d 108 0 [l0, .ref k] [] h = rv E d 108 1 [l0, .ref k] [.ref k] h := rv_loc zp_108_0 rfl rfl
theorem zp_108_1 : zP1 108 1 = some (.getfield 18, 7, 1, 0) := zp_r zq_108 rfl
theorem zi_108_1 : rv E d 108 1 [l0, l1] [.ref k] h = (zfl h k 7 1).bind (fun v => rv E d 108 4 [l0, l1] [v] h) := rv_getf zp_108_1 (by decide)
theorem zp_108_4 : zP1 108 4 = some (.arraylength, 0, 0, 0) := zp_l zq_108 rfl
theorem zi_108_4 : rv E d 108 4 [l0, l1] [.ref k] h = (zln E h k).bind (fun y => rv E d 108 5 [l0, l1] [.int y] h) := rv_alen zp_108_4
theorem zp_108_5 : zP1 108 5 = some (.aload_n 0, 0, 0, 0) := zp_l zq_108 rfl
theorem zi_108_5 {s0 : Int32} : rv E d 108 5 [.ref k, l1] [.int s0] h = rv E d 108 6 [.ref k, l1] [.ref k, .int s0] h := rv_loc zp_108_5 rfl rfl
theorem zp_108_6 : zP1 108 6 = some (.getfield 18, 7, 1, 0) := zp_r zq_108 rfl
theorem zi_108_6 {s1 : Int32} : rv E d 108 6 [l0, l1] [.ref k, .int s1] h = (zfl h k 7 1).bind (fun v => rv E d 108 9 [l0, l1] [v, .int s1] h) := rv_getf zp_108_6 (by decide)
theorem zp_108_9 : zP1 108 9 = some (.arraylength, 0, 0, 0) := zp_l zq_108 rfl
theorem zi_108_9 {s1 : Int32} : rv E d 108 9 [l0, l1] [.ref k, .int s1] h = (zln E h k).bind (fun y => rv E d 108 10 [l0, l1] [.int y, .int s1] h) := rv_alen zp_108_9
theorem zp_108_10 : zP1 108 10 = some (.if_icmp .eq 4, 0, 0, 0) := zp_l zq_108 rfl
theorem zi_108_10 : rv E d 108 10 [l0, l1] [.int y, .int x] h = if x = y then rv E d 108 14 [l0, l1] [] h else rv E d 108 13 [l0, l1] [] h := rv_icmp zp_108_10 rfl rfl
theorem zp_108_13 : zP1 108 13 = some (.return_, 0, 0, 0) := zp_l zq_108 rfl
theorem zi_108_13 : rv E d 108 13 [l0, l1] [] h = some (none, h) := rv_retv zp_108_13 (zM_of zq_108)
theorem zp_108_14 : zP1 108 14 = some (.aload_n 0, 0, 0, 0) := zp_l zq_108 rfl
theorem zi_108_14 : rv E d 108 14 [.ref k, l1] [] h = rv E d 108 15 [.ref k, l1] [.ref k] h := rv_loc zp_108_14 rfl rfl
theorem zp_108_15 : zP1 108 15 = some (.aload_n 1, 0, 0, 0) := zp_l zq_108 rfl
theorem zi_108_15 {s0 : Nat} : rv E d 108 15 [l0, .ref k] [.ref s0] h = rv E d 108 16 [l0, .ref k] [.ref k, .ref s0] h := rv_loc zp_108_15 rfl rfl
theorem zp_108_16 : zP1 108 16 = some (.getfield 22, 7, 3, 0) := zp_r zq_108 rfl
theorem zi_108_16 {s1 : Nat} : rv E d 108 16 [l0, l1] [.ref k, .ref s1] h = (zfl h k 7 3).bind (fun v => rv E d 108 19 [l0, l1] [v, .ref s1] h) := rv_getf zp_108_16 (by decide)
theorem zp_108_19 : zP1 108 19 = some (.putfield 22, 7, 3, 0) := zp_r zq_108 rfl
theorem zi_108_19 {s0 : Int32} : rv E d 108 19 [l0, l1] [.int s0, .ref k] h = (zsf h k 7 3 0 (.int s0)).bind (fun h2 => rv E d 108 22 [l0, l1] [] h2) := rv_putf zp_108_19
theorem zp_108_22 : zP1 108 22 = some (.aload_n 1, 0, 0, 0) := zp_l zq_108 rfl
theorem zi_108_22 : rv E d 108 22 [l0, .ref k] [] h = rv E d 108 23 [l0, .ref k] [.ref k] h := rv_loc zp_108_22 rfl rfl
theorem zp_108_23 : zP1 108 23 = some (.getfield 18, 7, 1, 0) := zp_r zq_108 rfl
theorem zi_108_23 : rv E d 108 23 [l0, l1] [.ref k] h = (zfl h k 7 1).bind (fun v => rv E d 108 26 [l0, l1] [v] h) := rv_getf zp_108_23 (by decide)
theorem zp_108_26 : zP1 108 26 = some (.iconst 0, 0, 0, 0) := zp_l zq_108 rfl
theorem zi_108_26 {s0 : Nat} : rv E d 108 26 [l0, l1] [.ref s0] h = rv E d 108 27 [l0, l1] [.int (nI 0), .ref s0] h := rv_const zp_108_26 (by decide)
theorem zp_108_27 : zP1 108 27 = some (.aload_n 0, 0, 0, 0) := zp_l zq_108 rfl
theorem zi_108_27 {s0 : Int32} {s1 : Nat} : rv E d 108 27 [.ref k, l1] [.int s0, .ref s1] h = rv E d 108 28 [.ref k, l1] [.ref k, .int s0, .ref s1] h := rv_loc zp_108_27 rfl rfl
theorem zp_108_28 : zP1 108 28 = some (.getfield 18, 7, 1, 0) := zp_r zq_108 rfl
theorem zi_108_28 {s1 : Int32} {s2 : Nat} : rv E d 108 28 [l0, l1] [.ref k, .int s1, .ref s2] h = (zfl h k 7 1).bind (fun v => rv E d 108 31 [l0, l1] [v, .int s1, .ref s2] h) := rv_getf zp_108_28 (by decide)
theorem zp_108_31 : zP1 108 31 = some (.iconst 0, 0, 0, 0) := zp_l zq_108 rfl
theorem zi_108_31 {s0 : Nat} {s1 : Int32} {s2 : Nat} : rv E d 108 31 [l0, l1] [.ref s0, .int s1, .ref s2] h = rv E d 108 32 [l0, l1] [.int (nI 0), .ref s0, .int s1, .ref s2] h := rv_const zp_108_31 (by decide)
theorem zp_108_32 : zP1 108 32 = some (.aload_n 0, 0, 0, 0) := zp_l zq_108 rfl
theorem zi_108_32 {s0 : Int32} {s1 : Nat} {s2 : Int32} {s3 : Nat} : rv E d 108 32 [.ref k, l1] [.int s0, .ref s1, .int s2, .ref s3] h = rv E d 108 33 [.ref k, l1] [.ref k, .int s0, .ref s1, .int s2, .ref s3] h := rv_loc zp_108_32 rfl rfl
theorem zp_108_33 : zP1 108 33 = some (.getfield 22, 7, 3, 0) := zp_r zq_108 rfl
theorem zi_108_33 {s1 : Int32} {s2 : Nat} {s3 : Int32} {s4 : Nat} : rv E d 108 33 [l0, l1] [.ref k, .int s1, .ref s2, .int s3, .ref s4] h = (zfl h k 7 3).bind (fun v => rv E d 108 36 [l0, l1] [v, .int s1, .ref s2, .int s3, .ref s4] h) := rv_getf zp_108_33 (by decide)
theorem zp_108_36 : zP1 108 36 = some (.aload_n 0, 0, 0, 0) := zp_l zq_108 rfl
theorem zi_108_36 {s0 : Int32} {s1 : Int32} {s2 : Nat} {s3 : Int32} {s4 : Nat} : rv E d 108 36 [.ref k, l1] [.int s0, .int s1, .ref s2, .int s3, .ref s4] h = rv E d 108 37 [.ref k, l1] [.ref k, .int s0, .int s1, .ref s2, .int s3, .ref s4] h := rv_loc zp_108_36 rfl rfl
theorem zp_108_37 : zP1 108 37 = some (.getfield 15, 7, 0, 0) := zp_r zq_108 rfl
theorem zi_108_37 {s1 : Int32} {s2 : Int32} {s3 : Nat} {s4 : Int32} {s5 : Nat} : rv E d 108 37 [l0, l1] [.ref k, .int s1, .int s2, .ref s3, .int s4, .ref s5] h = (zfl h k 7 0).bind (fun v => rv E d 108 40 [l0, l1] [v, .int s1, .int s2, .ref s3, .int s4, .ref s5] h) := rv_getf zp_108_37 (by decide)
theorem zp_108_40 : zP1 108 40 = some (.imul, 0, 0, 0) := zp_l zq_108 rfl
theorem zi_108_40 {s2 : Int32} {s3 : Nat} {s4 : Int32} {s5 : Nat} : rv E d 108 40 [l0, l1] [.int y, .int x, .int s2, .ref s3, .int s4, .ref s5] h = rv E d 108 41 [l0, l1] [.int (x * y), .int s2, .ref s3, .int s4, .ref s5] h := rv_stk zp_108_40 rfl rfl
theorem zp_108_41 : zP1 108 41 = some (.invokestatic 25, 9999, 0, 0) := zp_r zq_108 rfl
theorem zi_108_41 {s0 : Int32} {s1 : Int32} {s2 : Nat} {s3 : Int32} {s4 : Nat} : rv E d 108 41 [l0, l1] [.int s0, .int s1, .ref s2, .int s3, .ref s4] h = (zcopy [.int s0, .int s1, .ref s2, .int s3, .ref s4] h).bind (fun q => rv E d 108 44 [l0, l1] q.1 q.2) := rv_hpm zp_108_41 rfl
theorem zp_108_44 : zP1 108 44 = some (.return_, 0, 0, 0) := zp_l zq_108 rfl
theorem zi_108_44 : rv E d 108 44 [l0, l1] [] h = some (none, h) := rv_retv zp_108_44 (zM_of zq_108)
theorem zp_199_0 : zP1 199 0 = some (.iload_n 0, 0, 0, 0) := zp_l zq_199 rfl
theorem zi_199_0 : rv E d 199 0 [.int x, l1, l2] [] h = rv E d 199 1 [.int x, l1, l2] [.int x] h := rv_loc zp_199_0 rfl rfl
theorem zp_199_1 : zP1 199 1 = some (.iload_n 1, 0, 0, 0) := zp_l zq_199 rfl
theorem zi_199_1 {s0 : Int32} : rv E d 199 1 [l0, .int x, l2] [.int s0] h = rv E d 199 2 [l0, .int x, l2] [.int x, .int s0] h := rv_loc zp_199_1 rfl rfl
theorem zp_199_2 : zP1 199 2 = some (.if_icmp .lt 12, 0, 0, 0) := zp_l zq_199 rfl
theorem zi_199_2 : rv E d 199 2 [l0, l1, l2] [.int y, .int x] h = if x < y then rv E d 199 14 [l0, l1, l2] [] h else rv E d 199 5 [l0, l1, l2] [] h := rv_icmp zp_199_2 rfl rfl
theorem zp_199_5 : zP1 199 5 = some (.iload_n 0, 0, 0, 0) := zp_l zq_199 rfl
theorem zi_199_5 : rv E d 199 5 [.int x, l1, l2] [] h = rv E d 199 6 [.int x, l1, l2] [.int x] h := rv_loc zp_199_5 rfl rfl
theorem zp_199_6 : zP1 199 6 = some (.iload_n 2, 0, 0, 0) := zp_l zq_199 rfl
theorem zi_199_6 {s0 : Int32} : rv E d 199 6 [l0, l1, .int x] [.int s0] h = rv E d 199 7 [l0, l1, .int x] [.int x, .int s0] h := rv_loc zp_199_6 rfl rfl
theorem zp_199_7 : zP1 199 7 = some (.if_icmp .gt 7, 0, 0, 0) := zp_l zq_199 rfl
theorem zi_199_7 : rv E d 199 7 [l0, l1, l2] [.int y, .int x] h = if y < x then rv E d 199 14 [l0, l1, l2] [] h else rv E d 199 10 [l0, l1, l2] [] h := rv_icmp zp_199_7 rfl rfl
theorem zp_199_10 : zP1 199 10 = some (.iconst 1, 0, 0, 0) := zp_l zq_199 rfl
theorem zi_199_10 : rv E d 199 10 [l0, l1, l2] [] h = rv E d 199 11 [l0, l1, l2] [.int (nI 1)] h := rv_const zp_199_10 (by decide)
theorem zp_199_11 : zP1 199 11 = some (.goto 4, 0, 0, 0) := zp_l zq_199 rfl
theorem zi_199_11 {s0 : Int32} : rv E d 199 11 [l0, l1, l2] [.int s0] h = rv E d 199 15 [l0, l1, l2] [.int s0] h := rv_goto zp_199_11 rfl
theorem zp_199_14 : zP1 199 14 = some (.iconst 0, 0, 0, 0) := zp_l zq_199 rfl
theorem zi_199_14 : rv E d 199 14 [l0, l1, l2] [] h = rv E d 199 15 [l0, l1, l2] [.int (nI 0)] h := rv_const zp_199_14 (by decide)
theorem zp_199_15 : zP1 199 15 = some (.ireturn, 0, 0, 0) := zp_l zq_199 rfl
theorem zi_199_15 : rv E d 199 15 [l0, l1, l2] [.int x] h = if narrow .boolean (.int x) = .int x then some (some (.int x), h) else none := rv_rets zp_199_15 (zM_of zq_199)
theorem zp_200_0 : zP1 200 0 = some (.iload_n 0, 0, 0, 0) := zp_l zq_200 rfl
theorem zi_200_0 : rv E d 200 0 [.int x] [] h = rv E d 200 1 [.int x] [.int x] h := rv_loc zp_200_0 rfl rfl
theorem zp_200_1 : zP1 200 1 = some (.iconst 0, 0, 0, 0) := zp_l zq_200 rfl
theorem zi_200_1 {s0 : Int32} : rv E d 200 1 [l0] [.int s0] h = rv E d 200 2 [l0] [.int (nI 0), .int s0] h := rv_const zp_200_1 (by decide)
theorem zp_200_2 : zP1 200 2 = some (.bipush 99, 0, 0, 0) := zp_l zq_200 rfl
theorem zi_200_2 {s0 : Int32} {s1 : Int32} : rv E d 200 2 [l0] [.int s0, .int s1] h = rv E d 200 4 [l0] [.int (nI 99), .int s0, .int s1] h := rv_bip zp_200_2 (by decide)
theorem zp_200_4 : zP1 200 4 = some (.invokestatic 100, 199, 3, 0) := zp_r zq_200 rfl
-- call PeaceRingModel.within
theorem zi_200_4 {s0 : Int32} {s1 : Int32} {s2 : Int32} : rv E (d + 1) 200 4 [l0] [.int s0, .int s1, .int s2] h = (rv E d 199 0 [.int s2, .int s1, .int s0] [] h).bind (zth E (d + 1) 200 7 [l0] [] h) := rv_calls (as := [.int s2, .int s1, .int s0]) (rest := []) zp_200_4 (by decide) (zM_of zq_199) rfl ⟨Nat.le_of_ble_eq_true rfl, Nat.le_of_ble_eq_true rfl⟩
theorem zp_200_7 : zP1 200 7 = some (.ireturn, 0, 0, 0) := zp_l zq_200 rfl
theorem zi_200_7 : rv E d 200 7 [l0] [.int x] h = if narrow .boolean (.int x) = .int x then some (some (.int x), h) else none := rv_rets zp_200_7 (zM_of zq_200)
theorem zp_201_0 : zP1 201 0 = some (.iload_n 0, 0, 0, 0) := zp_l zq_201 rfl
theorem zi_201_0 : rv E d 201 0 [.int x] [] h = rv E d 201 1 [.int x] [.int x] h := rv_loc zp_201_0 rfl rfl
theorem zp_201_1 : zP1 201 1 = some (.iconst 0, 0, 0, 0) := zp_l zq_201 rfl
theorem zi_201_1 {s0 : Int32} : rv E d 201 1 [l0] [.int s0] h = rv E d 201 2 [l0] [.int (nI 0), .int s0] h := rv_const zp_201_1 (by decide)
theorem zp_201_2 : zP1 201 2 = some (.sipush 9999, 0, 0, 0) := zp_l zq_201 rfl
theorem zi_201_2 {s0 : Int32} {s1 : Int32} : rv E d 201 2 [l0] [.int s0, .int s1] h = rv E d 201 5 [l0] [.int (nI 9999), .int s0, .int s1] h := rv_sip zp_201_2 (by decide)
theorem zp_201_5 : zP1 201 5 = some (.invokestatic 100, 199, 3, 0) := zp_r zq_201 rfl
-- call PeaceRingModel.within
theorem zi_201_5 {s0 : Int32} {s1 : Int32} {s2 : Int32} : rv E (d + 1) 201 5 [l0] [.int s0, .int s1, .int s2] h = (rv E d 199 0 [.int s2, .int s1, .int s0] [] h).bind (zth E (d + 1) 201 8 [l0] [] h) := rv_calls (as := [.int s2, .int s1, .int s0]) (rest := []) zp_201_5 (by decide) (zM_of zq_199) rfl ⟨Nat.le_of_ble_eq_true rfl, Nat.le_of_ble_eq_true rfl⟩
theorem zp_201_8 : zP1 201 8 = some (.ireturn, 0, 0, 0) := zp_l zq_201 rfl
theorem zi_201_8 : rv E d 201 8 [l0] [.int x] h = if narrow .boolean (.int x) = .int x then some (some (.int x), h) else none := rv_rets zp_201_8 (zM_of zq_201)
theorem zp_202_0 : zP1 202 0 = some (.iload_n 1, 0, 0, 0) := zp_l zq_202 rfl
theorem zi_202_0 : rv E d 202 0 [l0, .int x] [] h = rv E d 202 1 [l0, .int x] [.int x] h := rv_loc zp_202_0 rfl rfl
theorem zp_202_1 : zP1 202 1 = some (.iconst 0, 0, 0, 0) := zp_l zq_202 rfl
theorem zi_202_1 {s0 : Int32} : rv E d 202 1 [l0, l1] [.int s0] h = rv E d 202 2 [l0, l1] [.int (nI 0), .int s0] h := rv_const zp_202_1 (by decide)
theorem zp_202_2 : zP1 202 2 = some (.aload_n 0, 0, 0, 0) := zp_l zq_202 rfl
theorem zi_202_2 {s0 : Int32} {s1 : Int32} : rv E d 202 2 [.ref k, l1] [.int s0, .int s1] h = rv E d 202 3 [.ref k, l1] [.ref k, .int s0, .int s1] h := rv_loc zp_202_2 rfl rfl
theorem zp_202_3 : zP1 202 3 = some (.getfield 9, 11, 0, 0) := zp_r zq_202 rfl
theorem zi_202_3 {s1 : Int32} {s2 : Int32} : rv E d 202 3 [l0, l1] [.ref k, .int s1, .int s2] h = (zfl h k 11 0).bind (fun v => rv E d 202 6 [l0, l1] [v, .int s1, .int s2] h) := rv_getf zp_202_3 (by decide)
theorem zp_202_6 : zP1 202 6 = some (.iconst 1, 0, 0, 0) := zp_l zq_202 rfl
theorem zi_202_6 {s0 : Nat} {s1 : Int32} {s2 : Int32} : rv E d 202 6 [l0, l1] [.ref s0, .int s1, .int s2] h = rv E d 202 7 [l0, l1] [.int (nI 1), .ref s0, .int s1, .int s2] h := rv_const zp_202_6 (by decide)
theorem zp_202_7 : zP1 202 7 = some (.iaload, 0, 0, 0) := zp_l zq_202 rfl
theorem zi_202_7 {s2 : Int32} {s3 : Int32} : rv E d 202 7 [l0, l1] [.int x, .ref k, .int s2, .int s3] h = (zgi E h k x 0).bind (fun y => rv E d 202 8 [l0, l1] [.int y, .int s2, .int s3] h) := rv_ald (Or.inl ⟨rfl, rfl⟩) zp_202_7
theorem zp_202_8 : zP1 202 8 = some (.iconst 1, 0, 0, 0) := zp_l zq_202 rfl
theorem zi_202_8 {s0 : Int32} {s1 : Int32} {s2 : Int32} : rv E d 202 8 [l0, l1] [.int s0, .int s1, .int s2] h = rv E d 202 9 [l0, l1] [.int (nI 1), .int s0, .int s1, .int s2] h := rv_const zp_202_8 (by decide)
theorem zp_202_9 : zP1 202 9 = some (.isub, 0, 0, 0) := zp_l zq_202 rfl
theorem zi_202_9 {s2 : Int32} {s3 : Int32} : rv E d 202 9 [l0, l1] [.int y, .int x, .int s2, .int s3] h = rv E d 202 10 [l0, l1] [.int (x - y), .int s2, .int s3] h := rv_stk zp_202_9 rfl rfl
theorem zp_202_10 : zP1 202 10 = some (.invokestatic 100, 199, 3, 0) := zp_r zq_202 rfl
-- call PeaceRingModel.within
theorem zi_202_10 {s0 : Int32} {s1 : Int32} {s2 : Int32} : rv E (d + 1) 202 10 [l0, l1] [.int s0, .int s1, .int s2] h = (rv E d 199 0 [.int s2, .int s1, .int s0] [] h).bind (zth E (d + 1) 202 13 [l0, l1] [] h) := rv_calls (as := [.int s2, .int s1, .int s0]) (rest := []) zp_202_10 (by decide) (zM_of zq_199) rfl ⟨Nat.le_of_ble_eq_true rfl, Nat.le_of_ble_eq_true rfl⟩
theorem zp_202_13 : zP1 202 13 = some (.ireturn, 0, 0, 0) := zp_l zq_202 rfl
theorem zi_202_13 : rv E d 202 13 [l0, l1] [.int x] h = if narrow .boolean (.int x) = .int x then some (some (.int x), h) else none := rv_rets zp_202_13 (zM_of zq_202)
theorem zp_203_0 : zP1 203 0 = some (.aload_n 0, 0, 0, 0) := zp_l zq_203 rfl
theorem zi_203_0 : rv E d 203 0 [.ref k, l1] [] h = rv E d 203 1 [.ref k, l1] [.ref k] h := rv_loc zp_203_0 rfl rfl
theorem zp_203_1 : zP1 203 1 = some (.getfield 9, 11, 0, 0) := zp_r zq_203 rfl
theorem zi_203_1 : rv E d 203 1 [l0, l1] [.ref k] h = (zfl h k 11 0).bind (fun v => rv E d 203 4 [l0, l1] [v] h) := rv_getf zp_203_1 (by decide)
theorem zp_203_4 : zP1 203 4 = some (.bipush 10, 0, 0, 0) := zp_l zq_203 rfl
theorem zi_203_4 {s0 : Nat} : rv E d 203 4 [l0, l1] [.ref s0] h = rv E d 203 6 [l0, l1] [.int (nI 10), .ref s0] h := rv_bip zp_203_4 (by decide)
theorem zp_203_6 : zP1 203 6 = some (.iload_n 1, 0, 0, 0) := zp_l zq_203 rfl
theorem zi_203_6 {s0 : Int32} {s1 : Nat} : rv E d 203 6 [l0, .int x] [.int s0, .ref s1] h = rv E d 203 7 [l0, .int x] [.int x, .int s0, .ref s1] h := rv_loc zp_203_6 rfl rfl
theorem zp_203_7 : zP1 203 7 = some (.iadd, 0, 0, 0) := zp_l zq_203 rfl
theorem zi_203_7 {s2 : Nat} : rv E d 203 7 [l0, l1] [.int y, .int x, .ref s2] h = rv E d 203 8 [l0, l1] [.int (x + y), .ref s2] h := rv_stk zp_203_7 rfl rfl
theorem zp_203_8 : zP1 203 8 = some (.iaload, 0, 0, 0) := zp_l zq_203 rfl
theorem zi_203_8 : rv E d 203 8 [l0, l1] [.int x, .ref k] h = (zgi E h k x 0).bind (fun y => rv E d 203 9 [l0, l1] [.int y] h) := rv_ald (Or.inl ⟨rfl, rfl⟩) zp_203_8
theorem zp_203_9 : zP1 203 9 = some (.iconst 1, 0, 0, 0) := zp_l zq_203 rfl
theorem zi_203_9 {s0 : Int32} : rv E d 203 9 [l0, l1] [.int s0] h = rv E d 203 10 [l0, l1] [.int (nI 1), .int s0] h := rv_const zp_203_9 (by decide)
theorem zp_203_10 : zP1 203 10 = some (.if_icmp .ne 7, 0, 0, 0) := zp_l zq_203 rfl
theorem zi_203_10 : rv E d 203 10 [l0, l1] [.int y, .int x] h = if ¬ x = y then rv E d 203 17 [l0, l1] [] h else rv E d 203 13 [l0, l1] [] h := rv_icmp zp_203_10 rfl rfl
theorem zp_203_13 : zP1 203 13 = some (.iconst 1, 0, 0, 0) := zp_l zq_203 rfl
theorem zi_203_13 : rv E d 203 13 [l0, l1] [] h = rv E d 203 14 [l0, l1] [.int (nI 1)] h := rv_const zp_203_13 (by decide)
theorem zp_203_14 : zP1 203 14 = some (.goto 4, 0, 0, 0) := zp_l zq_203 rfl
theorem zi_203_14 {s0 : Int32} : rv E d 203 14 [l0, l1] [.int s0] h = rv E d 203 18 [l0, l1] [.int s0] h := rv_goto zp_203_14 rfl
theorem zp_203_17 : zP1 203 17 = some (.iconst 0, 0, 0, 0) := zp_l zq_203 rfl
theorem zi_203_17 : rv E d 203 17 [l0, l1] [] h = rv E d 203 18 [l0, l1] [.int (nI 0)] h := rv_const zp_203_17 (by decide)
theorem zp_203_18 : zP1 203 18 = some (.ireturn, 0, 0, 0) := zp_l zq_203 rfl
theorem zi_203_18 : rv E d 203 18 [l0, l1] [.int x] h = if narrow .boolean (.int x) = .int x then some (some (.int x), h) else none := rv_rets zp_203_18 (zM_of zq_203)
theorem zp_204_0 : zP1 204 0 = some (.bipush 110, 0, 0, 0) := zp_l zq_204 rfl
theorem zi_204_0 : rv E d 204 0 [l0, l1] [] h = rv E d 204 2 [l0, l1] [.int (nI 110)] h := rv_bip zp_204_0 (by decide)
theorem zp_204_2 : zP1 204 2 = some (.bipush 9, 0, 0, 0) := zp_l zq_204 rfl
theorem zi_204_2 {s0 : Int32} : rv E d 204 2 [l0, l1] [.int s0] h = rv E d 204 4 [l0, l1] [.int (nI 9), .int s0] h := rv_bip zp_204_2 (by decide)
theorem zp_204_4 : zP1 204 4 = some (.iload_n 0, 0, 0, 0) := zp_l zq_204 rfl
theorem zi_204_4 {s0 : Int32} {s1 : Int32} : rv E d 204 4 [.int x, l1] [.int s0, .int s1] h = rv E d 204 5 [.int x, l1] [.int x, .int s0, .int s1] h := rv_loc zp_204_4 rfl rfl
theorem zp_204_5 : zP1 204 5 = some (.imul, 0, 0, 0) := zp_l zq_204 rfl
theorem zi_204_5 {s2 : Int32} : rv E d 204 5 [l0, l1] [.int y, .int x, .int s2] h = rv E d 204 6 [l0, l1] [.int (x * y), .int s2] h := rv_stk zp_204_5 rfl rfl
theorem zp_204_6 : zP1 204 6 = some (.iadd, 0, 0, 0) := zp_l zq_204 rfl
theorem zi_204_6 : rv E d 204 6 [l0, l1] [.int y, .int x] h = rv E d 204 7 [l0, l1] [.int (x + y)] h := rv_stk zp_204_6 rfl rfl
theorem zp_204_7 : zP1 204 7 = some (.iload_n 1, 0, 0, 0) := zp_l zq_204 rfl
theorem zi_204_7 {s0 : Int32} : rv E d 204 7 [l0, .int x] [.int s0] h = rv E d 204 8 [l0, .int x] [.int x, .int s0] h := rv_loc zp_204_7 rfl rfl
theorem zp_204_8 : zP1 204 8 = some (.iadd, 0, 0, 0) := zp_l zq_204 rfl
theorem zi_204_8 : rv E d 204 8 [l0, l1] [.int y, .int x] h = rv E d 204 9 [l0, l1] [.int (x + y)] h := rv_stk zp_204_8 rfl rfl
theorem zp_204_9 : zP1 204 9 = some (.ireturn, 0, 0, 0) := zp_l zq_204 rfl
theorem zi_204_9 : rv E d 204 9 [l0, l1] [.int x] h = some (some (.int x), h) := rv_reti zp_204_9 (zM_of zq_204)
theorem zp_205_0 : zP1 205 0 = some (.sipush 794, 0, 0, 0) := zp_l zq_205 rfl
theorem zi_205_0 : rv E d 205 0 [l0, l1] [] h = rv E d 205 3 [l0, l1] [.int (nI 794)] h := rv_sip zp_205_0 (by decide)
theorem zp_205_3 : zP1 205 3 = some (.bipush 6, 0, 0, 0) := zp_l zq_205 rfl
theorem zi_205_3 {s0 : Int32} : rv E d 205 3 [l0, l1] [.int s0] h = rv E d 205 5 [l0, l1] [.int (nI 6), .int s0] h := rv_bip zp_205_3 (by decide)
theorem zp_205_5 : zP1 205 5 = some (.iload_n 0, 0, 0, 0) := zp_l zq_205 rfl
theorem zi_205_5 {s0 : Int32} {s1 : Int32} : rv E d 205 5 [.int x, l1] [.int s0, .int s1] h = rv E d 205 6 [.int x, l1] [.int x, .int s0, .int s1] h := rv_loc zp_205_5 rfl rfl
theorem zp_205_6 : zP1 205 6 = some (.imul, 0, 0, 0) := zp_l zq_205 rfl
theorem zi_205_6 {s2 : Int32} : rv E d 205 6 [l0, l1] [.int y, .int x, .int s2] h = rv E d 205 7 [l0, l1] [.int (x * y), .int s2] h := rv_stk zp_205_6 rfl rfl
theorem zp_205_7 : zP1 205 7 = some (.iadd, 0, 0, 0) := zp_l zq_205 rfl
theorem zi_205_7 : rv E d 205 7 [l0, l1] [.int y, .int x] h = rv E d 205 8 [l0, l1] [.int (x + y)] h := rv_stk zp_205_7 rfl rfl
theorem zp_205_8 : zP1 205 8 = some (.iload_n 1, 0, 0, 0) := zp_l zq_205 rfl
theorem zi_205_8 {s0 : Int32} : rv E d 205 8 [l0, .int x] [.int s0] h = rv E d 205 9 [l0, .int x] [.int x, .int s0] h := rv_loc zp_205_8 rfl rfl
theorem zp_205_9 : zP1 205 9 = some (.iadd, 0, 0, 0) := zp_l zq_205 rfl
theorem zi_205_9 : rv E d 205 9 [l0, l1] [.int y, .int x] h = rv E d 205 10 [l0, l1] [.int (x + y)] h := rv_stk zp_205_9 rfl rfl
theorem zp_205_10 : zP1 205 10 = some (.ireturn, 0, 0, 0) := zp_l zq_205 rfl
theorem zi_205_10 : rv E d 205 10 [l0, l1] [.int x] h = some (some (.int x), h) := rv_reti zp_205_10 (zM_of zq_205)
theorem zp_206_0 : zP1 206 0 = some (.iload_n 0, 0, 0, 0) := zp_l zq_206 rfl
theorem zi_206_0 : rv E d 206 0 [.int x, l1] [] h = rv E d 206 1 [.int x, l1] [.int x] h := rv_loc zp_206_0 rfl rfl
theorem zp_206_1 : zP1 206 1 = some (.bipush 10, 0, 0, 0) := zp_l zq_206 rfl
theorem zi_206_1 {s0 : Int32} : rv E d 206 1 [l0, l1] [.int s0] h = rv E d 206 3 [l0, l1] [.int (nI 10), .int s0] h := rv_bip zp_206_1 (by decide)
theorem zp_206_3 : zP1 206 3 = some (.idiv, 0, 0, 0) := zp_l zq_206 rfl
theorem zi_206_3 (hy : ¬ y = 0) : rv E d 206 3 [l0, l1] [.int y, .int x] h = rv E d 206 4 [l0, l1] [.int (x / y)] h := rv_stk zp_206_3 rfl (if_neg hy)
theorem zp_206_4 : zP1 206 4 = some (.iload_n 1, 0, 0, 0) := zp_l zq_206 rfl
theorem zi_206_4 {s0 : Int32} : rv E d 206 4 [l0, .int x] [.int s0] h = rv E d 206 5 [l0, .int x] [.int x, .int s0] h := rv_loc zp_206_4 rfl rfl
theorem zp_206_5 : zP1 206 5 = some (.bipush 10, 0, 0, 0) := zp_l zq_206 rfl
theorem zi_206_5 {s0 : Int32} {s1 : Int32} : rv E d 206 5 [l0, l1] [.int s0, .int s1] h = rv E d 206 7 [l0, l1] [.int (nI 10), .int s0, .int s1] h := rv_bip zp_206_5 (by decide)
theorem zp_206_7 : zP1 206 7 = some (.idiv, 0, 0, 0) := zp_l zq_206 rfl
theorem zi_206_7 {s2 : Int32} (hy : ¬ y = 0) : rv E d 206 7 [l0, l1] [.int y, .int x, .int s2] h = rv E d 206 8 [l0, l1] [.int (x / y), .int s2] h := rv_stk zp_206_7 rfl (if_neg hy)
theorem zp_206_8 : zP1 206 8 = some (.isub, 0, 0, 0) := zp_l zq_206 rfl
theorem zi_206_8 : rv E d 206 8 [l0, l1] [.int y, .int x] h = rv E d 206 9 [l0, l1] [.int (x - y)] h := rv_stk zp_206_8 rfl rfl
theorem zp_206_9 : zP1 206 9 = some (.invokestatic 104, 323, 1, 0) := zp_r zq_206 rfl
-- call java/lang/Math.abs
theorem zi_206_9 {s0 : Int32} : rv E (d + 1) 206 9 [l0, l1] [.int s0] h = (rv E d 323 0 [.int s0] [] h).bind (zth E (d + 1) 206 12 [l0, l1] [] h) := rv_calls (as := [.int s0]) (rest := []) zp_206_9 (by decide) (zM_of zq_323) rfl ⟨Nat.le_of_ble_eq_true rfl, Nat.le_of_ble_eq_true rfl⟩
theorem zp_206_12 : zP1 206 12 = some (.iload_n 0, 0, 0, 0) := zp_l zq_206 rfl
theorem zi_206_12 {s0 : Int32} : rv E d 206 12 [.int x, l1] [.int s0] h = rv E d 206 13 [.int x, l1] [.int x, .int s0] h := rv_loc zp_206_12 rfl rfl
theorem zp_206_13 : zP1 206 13 = some (.bipush 10, 0, 0, 0) := zp_l zq_206 rfl
theorem zi_206_13 {s0 : Int32} {s1 : Int32} : rv E d 206 13 [l0, l1] [.int s0, .int s1] h = rv E d 206 15 [l0, l1] [.int (nI 10), .int s0, .int s1] h := rv_bip zp_206_13 (by decide)
theorem zp_206_15 : zP1 206 15 = some (.irem, 0, 0, 0) := zp_l zq_206 rfl
theorem zi_206_15 {s2 : Int32} (hy : ¬ y = 0) : rv E d 206 15 [l0, l1] [.int y, .int x, .int s2] h = rv E d 206 16 [l0, l1] [.int (x - x / y * y), .int s2] h := rv_stk zp_206_15 rfl (if_neg hy)
theorem zp_206_16 : zP1 206 16 = some (.iload_n 1, 0, 0, 0) := zp_l zq_206 rfl
theorem zi_206_16 {s0 : Int32} {s1 : Int32} : rv E d 206 16 [l0, .int x] [.int s0, .int s1] h = rv E d 206 17 [l0, .int x] [.int x, .int s0, .int s1] h := rv_loc zp_206_16 rfl rfl
theorem zp_206_17 : zP1 206 17 = some (.bipush 10, 0, 0, 0) := zp_l zq_206 rfl
theorem zi_206_17 {s0 : Int32} {s1 : Int32} {s2 : Int32} : rv E d 206 17 [l0, l1] [.int s0, .int s1, .int s2] h = rv E d 206 19 [l0, l1] [.int (nI 10), .int s0, .int s1, .int s2] h := rv_bip zp_206_17 (by decide)
theorem zp_206_19 : zP1 206 19 = some (.irem, 0, 0, 0) := zp_l zq_206 rfl
theorem zi_206_19 {s2 : Int32} {s3 : Int32} (hy : ¬ y = 0) : rv E d 206 19 [l0, l1] [.int y, .int x, .int s2, .int s3] h = rv E d 206 20 [l0, l1] [.int (x - x / y * y), .int s2, .int s3] h := rv_stk zp_206_19 rfl (if_neg hy)
theorem zp_206_20 : zP1 206 20 = some (.isub, 0, 0, 0) := zp_l zq_206 rfl
theorem zi_206_20 {s2 : Int32} : rv E d 206 20 [l0, l1] [.int y, .int x, .int s2] h = rv E d 206 21 [l0, l1] [.int (x - y), .int s2] h := rv_stk zp_206_20 rfl rfl
theorem zp_206_21 : zP1 206 21 = some (.invokestatic 104, 323, 1, 0) := zp_r zq_206 rfl
-- call java/lang/Math.abs
theorem zi_206_21 {s0 : Int32} {s1 : Int32} : rv E (d + 1) 206 21 [l0, l1] [.int s0, .int s1] h = (rv E d 323 0 [.int s0] [] h).bind (zth E (d + 1) 206 24 [l0, l1] [.int s1] h) := rv_calls (as := [.int s0]) (rest := [.int s1]) zp_206_21 (by decide) (zM_of zq_323) rfl ⟨Nat.le_of_ble_eq_true rfl, Nat.le_of_ble_eq_true rfl⟩
theorem zp_206_24 : zP1 206 24 = some (.iadd, 0, 0, 0) := zp_l zq_206 rfl
theorem zi_206_24 : rv E d 206 24 [l0, l1] [.int y, .int x] h = rv E d 206 25 [l0, l1] [.int (x + y)] h := rv_stk zp_206_24 rfl rfl
theorem zp_206_25 : zP1 206 25 = some (.ireturn, 0, 0, 0) := zp_l zq_206 rfl
theorem zi_206_25 : rv E d 206 25 [l0, l1] [.int x] h = some (some (.int x), h) := rv_reti zp_206_25 (zM_of zq_206)
theorem zp_207_0 : zP1 207 0 = some (.iconst 0, 0, 0, 0) := zp_l zq_207 rfl
theorem zi_207_0 : rv E d 207 0 [l0, l1, l2] [] h = rv E d 207 1 [l0, l1, l2] [.int (nI 0)] h := rv_const zp_207_0 (by decide)
theorem zp_207_1 : zP1 207 1 = some (.istore_n 1, 0, 0, 0) := zp_l zq_207 rfl
theorem zi_207_1 (hc : l0.category = 1) : rv E d 207 1 [l0, l1, l2] [.int x] h = rv E d 207 2 [l0, .int x, l2] [] h := rv_sto (i := 1) (t := 0) zp_207_1 rfl rfl (by simp [zsto, zlong, hc])
theorem zp_207_2 : zP1 207 2 = some (.iconst 0, 0, 0, 0) := zp_l zq_207 rfl
theorem zi_207_2 : rv E d 207 2 [l0, l1, l2] [] h = rv E d 207 3 [l0, l1, l2] [.int (nI 0)] h := rv_const zp_207_2 (by decide)
theorem zp_207_3 : zP1 207 3 = some (.istore_n 2, 0, 0, 0) := zp_l zq_207 rfl
theorem zi_207_3 (hc : l1.category = 1) : rv E d 207 3 [l0, l1, l2] [.int x] h = rv E d 207 4 [l0, l1, .int x] [] h := rv_sto (i := 2) (t := 0) zp_207_3 rfl rfl (by simp [zsto, zlong, hc])
theorem zp_207_4 : zP1 207 4 = some (.iload_n 2, 0, 0, 0) := zp_l zq_207 rfl
theorem zi_207_4 : rv E d 207 4 [l0, l1, .int x] [] h = rv E d 207 5 [l0, l1, .int x] [.int x] h := rv_loc zp_207_4 rfl rfl
theorem zp_207_5 : zP1 207 5 = some (.bipush 16, 0, 0, 0) := zp_l zq_207 rfl
theorem zi_207_5 {s0 : Int32} : rv E d 207 5 [l0, l1, l2] [.int s0] h = rv E d 207 7 [l0, l1, l2] [.int (nI 16), .int s0] h := rv_bip zp_207_5 (by decide)
theorem zp_207_7 : zP1 207 7 = some (.if_icmp .ge 17, 0, 0, 0) := zp_l zq_207 rfl
theorem zi_207_7 : rv E d 207 7 [l0, l1, l2] [.int y, .int x] h = if y ≤ x then rv E d 207 24 [l0, l1, l2] [] h else rv E d 207 10 [l0, l1, l2] [] h := rv_icmp zp_207_7 rfl rfl
theorem zp_207_10 : zP1 207 10 = some (.iload_n 1, 0, 0, 0) := zp_l zq_207 rfl
theorem zi_207_10 : rv E d 207 10 [l0, .int x, l2] [] h = rv E d 207 11 [l0, .int x, l2] [.int x] h := rv_loc zp_207_10 rfl rfl
theorem zp_207_11 : zP1 207 11 = some (.iload_n 0, 0, 0, 0) := zp_l zq_207 rfl
theorem zi_207_11 {s0 : Int32} : rv E d 207 11 [.int x, l1, l2] [.int s0] h = rv E d 207 12 [.int x, l1, l2] [.int x, .int s0] h := rv_loc zp_207_11 rfl rfl
theorem zp_207_12 : zP1 207 12 = some (.iload_n 2, 0, 0, 0) := zp_l zq_207 rfl
theorem zi_207_12 {s0 : Int32} {s1 : Int32} : rv E d 207 12 [l0, l1, .int x] [.int s0, .int s1] h = rv E d 207 13 [l0, l1, .int x] [.int x, .int s0, .int s1] h := rv_loc zp_207_12 rfl rfl
theorem zp_207_13 : zP1 207 13 = some (.ishr, 0, 0, 0) := zp_l zq_207 rfl
theorem zi_207_13 {s2 : Int32} : rv E d 207 13 [l0, l1, l2] [.int y, .int x, .int s2] h = rv E d 207 14 [l0, l1, l2] [.int (x >>> (y &&& 31)), .int s2] h := rv_stk zp_207_13 rfl rfl
theorem zp_207_14 : zP1 207 14 = some (.iconst 1, 0, 0, 0) := zp_l zq_207 rfl
theorem zi_207_14 {s0 : Int32} {s1 : Int32} : rv E d 207 14 [l0, l1, l2] [.int s0, .int s1] h = rv E d 207 15 [l0, l1, l2] [.int (nI 1), .int s0, .int s1] h := rv_const zp_207_14 (by decide)
theorem zp_207_15 : zP1 207 15 = some (.iand, 0, 0, 0) := zp_l zq_207 rfl
theorem zi_207_15 {s2 : Int32} : rv E d 207 15 [l0, l1, l2] [.int y, .int x, .int s2] h = rv E d 207 16 [l0, l1, l2] [.int (x &&& y), .int s2] h := rv_stk zp_207_15 rfl rfl
theorem zp_207_16 : zP1 207 16 = some (.iadd, 0, 0, 0) := zp_l zq_207 rfl
theorem zi_207_16 : rv E d 207 16 [l0, l1, l2] [.int y, .int x] h = rv E d 207 17 [l0, l1, l2] [.int (x + y)] h := rv_stk zp_207_16 rfl rfl
theorem zp_207_17 : zP1 207 17 = some (.istore_n 1, 0, 0, 0) := zp_l zq_207 rfl
theorem zi_207_17 (hc : l0.category = 1) : rv E d 207 17 [l0, l1, l2] [.int x] h = rv E d 207 18 [l0, .int x, l2] [] h := rv_sto (i := 1) (t := 0) zp_207_17 rfl rfl (by simp [zsto, zlong, hc])
theorem zp_207_18 : zP1 207 18 = some (.iinc 2 1, 0, 0, 0) := zp_l zq_207 rfl
theorem zi_207_18 (hc : l1.category = 1) : rv E d 207 18 [l0, l1, .int x] [] h = rv E d 207 21 [l0, l1, .int (x + (nI 1))] [] h := rv_inc zp_207_18 (by simp [zinc, zlong, hc]; try decide)
theorem zp_207_21 : zP1 207 21 = some (.goto (-17), 0, 0, 0) := zp_l zq_207 rfl
theorem zi_207_21 : rv E d 207 21 [l0, l1, l2] [] h = rv E d 207 4 [l0, l1, l2] [] h := rv_goto zp_207_21 rfl
theorem zp_207_24 : zP1 207 24 = some (.iload_n 1, 0, 0, 0) := zp_l zq_207 rfl
theorem zi_207_24 : rv E d 207 24 [l0, .int x, l2] [] h = rv E d 207 25 [l0, .int x, l2] [.int x] h := rv_loc zp_207_24 rfl rfl
theorem zp_207_25 : zP1 207 25 = some (.ireturn, 0, 0, 0) := zp_l zq_207 rfl
theorem zi_207_25 : rv E d 207 25 [l0, l1, l2] [.int x] h = some (some (.int x), h) := rv_reti zp_207_25 (zM_of zq_207)
theorem zp_208_0 : zP1 208 0 = some (.iload_n 2, 0, 0, 0) := zp_l zq_208 rfl
theorem zi_208_0 : rv E d 208 0 [l0, l1, .int x, l3] [] h = rv E d 208 1 [l0, l1, .int x, l3] [.int x] h := rv_loc zp_208_0 rfl rfl
theorem zp_208_1 : zP1 208 1 = some (.ifCond .ne 10, 0, 0, 0) := zp_l zq_208 rfl
theorem zi_208_1 : rv E d 208 1 [l0, l1, l2, l3] [.int x] h = if ¬ x = 0 then rv E d 208 11 [l0, l1, l2, l3] [] h else rv E d 208 4 [l0, l1, l2, l3] [] h := rv_ifc zp_208_1 rfl rfl
theorem zp_208_4 : zP1 208 4 = some (.iload_n 1, 0, 0, 0) := zp_l zq_208 rfl
theorem zi_208_4 : rv E d 208 4 [l0, .int x, l2, l3] [] h = rv E d 208 5 [l0, .int x, l2, l3] [.int x] h := rv_loc zp_208_4 rfl rfl
theorem zp_208_5 : zP1 208 5 = some (.bipush 10, 0, 0, 0) := zp_l zq_208 rfl
theorem zi_208_5 {s0 : Int32} : rv E d 208 5 [l0, l1, l2, l3] [.int s0] h = rv E d 208 7 [l0, l1, l2, l3] [.int (nI 10), .int s0] h := rv_bip zp_208_5 (by decide)
theorem zp_208_7 : zP1 208 7 = some (.isub, 0, 0, 0) := zp_l zq_208 rfl
theorem zi_208_7 : rv E d 208 7 [l0, l1, l2, l3] [.int y, .int x] h = rv E d 208 8 [l0, l1, l2, l3] [.int (x - y)] h := rv_stk zp_208_7 rfl rfl
theorem zp_208_8 : zP1 208 8 = some (.goto 53, 0, 0, 0) := zp_l zq_208 rfl
theorem zi_208_8 {s0 : Int32} : rv E d 208 8 [l0, l1, l2, l3] [.int s0] h = rv E d 208 61 [l0, l1, l2, l3] [.int s0] h := rv_goto zp_208_8 rfl
theorem zp_208_11 : zP1 208 11 = some (.iload_n 2, 0, 0, 0) := zp_l zq_208 rfl
theorem zi_208_11 : rv E d 208 11 [l0, l1, .int x, l3] [] h = rv E d 208 12 [l0, l1, .int x, l3] [.int x] h := rv_loc zp_208_11 rfl rfl
theorem zp_208_12 : zP1 208 12 = some (.iconst 1, 0, 0, 0) := zp_l zq_208 rfl
theorem zi_208_12 {s0 : Int32} : rv E d 208 12 [l0, l1, l2, l3] [.int s0] h = rv E d 208 13 [l0, l1, l2, l3] [.int (nI 1), .int s0] h := rv_const zp_208_12 (by decide)
theorem zp_208_13 : zP1 208 13 = some (.if_icmp .ne 20, 0, 0, 0) := zp_l zq_208 rfl
theorem zi_208_13 : rv E d 208 13 [l0, l1, l2, l3] [.int y, .int x] h = if ¬ x = y then rv E d 208 33 [l0, l1, l2, l3] [] h else rv E d 208 16 [l0, l1, l2, l3] [] h := rv_icmp zp_208_13 rfl rfl
theorem zp_208_16 : zP1 208 16 = some (.iload_n 1, 0, 0, 0) := zp_l zq_208 rfl
theorem zi_208_16 : rv E d 208 16 [l0, .int x, l2, l3] [] h = rv E d 208 17 [l0, .int x, l2, l3] [.int x] h := rv_loc zp_208_16 rfl rfl
theorem zp_208_17 : zP1 208 17 = some (.bipush 10, 0, 0, 0) := zp_l zq_208 rfl
theorem zi_208_17 {s0 : Int32} : rv E d 208 17 [l0, l1, l2, l3] [.int s0] h = rv E d 208 19 [l0, l1, l2, l3] [.int (nI 10), .int s0] h := rv_bip zp_208_17 (by decide)
theorem zp_208_19 : zP1 208 19 = some (.irem, 0, 0, 0) := zp_l zq_208 rfl
theorem zi_208_19 (hy : ¬ y = 0) : rv E d 208 19 [l0, l1, l2, l3] [.int y, .int x] h = rv E d 208 20 [l0, l1, l2, l3] [.int (x - x / y * y)] h := rv_stk zp_208_19 rfl (if_neg hy)
theorem zp_208_20 : zP1 208 20 = some (.ifCond .ne 7, 0, 0, 0) := zp_l zq_208 rfl
theorem zi_208_20 : rv E d 208 20 [l0, l1, l2, l3] [.int x] h = if ¬ x = 0 then rv E d 208 27 [l0, l1, l2, l3] [] h else rv E d 208 23 [l0, l1, l2, l3] [] h := rv_ifc zp_208_20 rfl rfl
theorem zp_208_23 : zP1 208 23 = some (.iconst (-1), 0, 0, 0) := zp_l zq_208 rfl
theorem zi_208_23 : rv E d 208 23 [l0, l1, l2, l3] [] h = rv E d 208 24 [l0, l1, l2, l3] [.int (-1)] h := rv_const zp_208_23 (by decide)
theorem zp_208_24 : zP1 208 24 = some (.goto 37, 0, 0, 0) := zp_l zq_208 rfl
theorem zi_208_24 {s0 : Int32} : rv E d 208 24 [l0, l1, l2, l3] [.int s0] h = rv E d 208 61 [l0, l1, l2, l3] [.int s0] h := rv_goto zp_208_24 rfl
theorem zp_208_27 : zP1 208 27 = some (.iload_n 1, 0, 0, 0) := zp_l zq_208 rfl
theorem zi_208_27 : rv E d 208 27 [l0, .int x, l2, l3] [] h = rv E d 208 28 [l0, .int x, l2, l3] [.int x] h := rv_loc zp_208_27 rfl rfl
theorem zp_208_28 : zP1 208 28 = some (.iconst 1, 0, 0, 0) := zp_l zq_208 rfl
theorem zi_208_28 {s0 : Int32} : rv E d 208 28 [l0, l1, l2, l3] [.int s0] h = rv E d 208 29 [l0, l1, l2, l3] [.int (nI 1), .int s0] h := rv_const zp_208_28 (by decide)
theorem zp_208_29 : zP1 208 29 = some (.isub, 0, 0, 0) := zp_l zq_208 rfl
theorem zi_208_29 : rv E d 208 29 [l0, l1, l2, l3] [.int y, .int x] h = rv E d 208 30 [l0, l1, l2, l3] [.int (x - y)] h := rv_stk zp_208_29 rfl rfl
theorem zp_208_30 : zP1 208 30 = some (.goto 31, 0, 0, 0) := zp_l zq_208 rfl
theorem zi_208_30 {s0 : Int32} : rv E d 208 30 [l0, l1, l2, l3] [.int s0] h = rv E d 208 61 [l0, l1, l2, l3] [.int s0] h := rv_goto zp_208_30 rfl
theorem zp_208_33 : zP1 208 33 = some (.iload_n 2, 0, 0, 0) := zp_l zq_208 rfl
theorem zi_208_33 : rv E d 208 33 [l0, l1, .int x, l3] [] h = rv E d 208 34 [l0, l1, .int x, l3] [.int x] h := rv_loc zp_208_33 rfl rfl
theorem zp_208_34 : zP1 208 34 = some (.iconst 2, 0, 0, 0) := zp_l zq_208 rfl
theorem zi_208_34 {s0 : Int32} : rv E d 208 34 [l0, l1, l2, l3] [.int s0] h = rv E d 208 35 [l0, l1, l2, l3] [.int (nI 2), .int s0] h := rv_const zp_208_34 (by decide)
theorem zp_208_35 : zP1 208 35 = some (.if_icmp .ne 22, 0, 0, 0) := zp_l zq_208 rfl
theorem zi_208_35 : rv E d 208 35 [l0, l1, l2, l3] [.int y, .int x] h = if ¬ x = y then rv E d 208 57 [l0, l1, l2, l3] [] h else rv E d 208 38 [l0, l1, l2, l3] [] h := rv_icmp zp_208_35 rfl rfl
theorem zp_208_38 : zP1 208 38 = some (.iload_n 1, 0, 0, 0) := zp_l zq_208 rfl
theorem zi_208_38 : rv E d 208 38 [l0, .int x, l2, l3] [] h = rv E d 208 39 [l0, .int x, l2, l3] [.int x] h := rv_loc zp_208_38 rfl rfl
theorem zp_208_39 : zP1 208 39 = some (.bipush 10, 0, 0, 0) := zp_l zq_208 rfl
theorem zi_208_39 {s0 : Int32} : rv E d 208 39 [l0, l1, l2, l3] [.int s0] h = rv E d 208 41 [l0, l1, l2, l3] [.int (nI 10), .int s0] h := rv_bip zp_208_39 (by decide)
theorem zp_208_41 : zP1 208 41 = some (.irem, 0, 0, 0) := zp_l zq_208 rfl
theorem zi_208_41 (hy : ¬ y = 0) : rv E d 208 41 [l0, l1, l2, l3] [.int y, .int x] h = rv E d 208 42 [l0, l1, l2, l3] [.int (x - x / y * y)] h := rv_stk zp_208_41 rfl (if_neg hy)
theorem zp_208_42 : zP1 208 42 = some (.bipush 9, 0, 0, 0) := zp_l zq_208 rfl
theorem zi_208_42 {s0 : Int32} : rv E d 208 42 [l0, l1, l2, l3] [.int s0] h = rv E d 208 44 [l0, l1, l2, l3] [.int (nI 9), .int s0] h := rv_bip zp_208_42 (by decide)
theorem zp_208_44 : zP1 208 44 = some (.if_icmp .ne 7, 0, 0, 0) := zp_l zq_208 rfl
theorem zi_208_44 : rv E d 208 44 [l0, l1, l2, l3] [.int y, .int x] h = if ¬ x = y then rv E d 208 51 [l0, l1, l2, l3] [] h else rv E d 208 47 [l0, l1, l2, l3] [] h := rv_icmp zp_208_44 rfl rfl
theorem zp_208_47 : zP1 208 47 = some (.iconst (-1), 0, 0, 0) := zp_l zq_208 rfl
theorem zi_208_47 : rv E d 208 47 [l0, l1, l2, l3] [] h = rv E d 208 48 [l0, l1, l2, l3] [.int (-1)] h := rv_const zp_208_47 (by decide)
theorem zp_208_48 : zP1 208 48 = some (.goto 13, 0, 0, 0) := zp_l zq_208 rfl
theorem zi_208_48 {s0 : Int32} : rv E d 208 48 [l0, l1, l2, l3] [.int s0] h = rv E d 208 61 [l0, l1, l2, l3] [.int s0] h := rv_goto zp_208_48 rfl
theorem zp_208_51 : zP1 208 51 = some (.iload_n 1, 0, 0, 0) := zp_l zq_208 rfl
theorem zi_208_51 : rv E d 208 51 [l0, .int x, l2, l3] [] h = rv E d 208 52 [l0, .int x, l2, l3] [.int x] h := rv_loc zp_208_51 rfl rfl
theorem zp_208_52 : zP1 208 52 = some (.iconst 1, 0, 0, 0) := zp_l zq_208 rfl
theorem zi_208_52 {s0 : Int32} : rv E d 208 52 [l0, l1, l2, l3] [.int s0] h = rv E d 208 53 [l0, l1, l2, l3] [.int (nI 1), .int s0] h := rv_const zp_208_52 (by decide)
theorem zp_208_53 : zP1 208 53 = some (.iadd, 0, 0, 0) := zp_l zq_208 rfl
theorem zi_208_53 : rv E d 208 53 [l0, l1, l2, l3] [.int y, .int x] h = rv E d 208 54 [l0, l1, l2, l3] [.int (x + y)] h := rv_stk zp_208_53 rfl rfl
theorem zp_208_54 : zP1 208 54 = some (.goto 7, 0, 0, 0) := zp_l zq_208 rfl
theorem zi_208_54 {s0 : Int32} : rv E d 208 54 [l0, l1, l2, l3] [.int s0] h = rv E d 208 61 [l0, l1, l2, l3] [.int s0] h := rv_goto zp_208_54 rfl
theorem zp_208_57 : zP1 208 57 = some (.iload_n 1, 0, 0, 0) := zp_l zq_208 rfl
theorem zi_208_57 : rv E d 208 57 [l0, .int x, l2, l3] [] h = rv E d 208 58 [l0, .int x, l2, l3] [.int x] h := rv_loc zp_208_57 rfl rfl
theorem zp_208_58 : zP1 208 58 = some (.bipush 10, 0, 0, 0) := zp_l zq_208 rfl
theorem zi_208_58 {s0 : Int32} : rv E d 208 58 [l0, l1, l2, l3] [.int s0] h = rv E d 208 60 [l0, l1, l2, l3] [.int (nI 10), .int s0] h := rv_bip zp_208_58 (by decide)
theorem zp_208_60 : zP1 208 60 = some (.iadd, 0, 0, 0) := zp_l zq_208 rfl
theorem zi_208_60 : rv E d 208 60 [l0, l1, l2, l3] [.int y, .int x] h = rv E d 208 61 [l0, l1, l2, l3] [.int (x + y)] h := rv_stk zp_208_60 rfl rfl
theorem zp_208_61 : zP1 208 61 = some (.istore_n 3, 0, 0, 0) := zp_l zq_208 rfl
theorem zi_208_61 (hc : l2.category = 1) : rv E d 208 61 [l0, l1, l2, l3] [.int x] h = rv E d 208 62 [l0, l1, l2, .int x] [] h := rv_sto (i := 3) (t := 0) zp_208_61 rfl rfl (by simp [zsto, zlong, hc])
theorem zp_208_62 : zP1 208 62 = some (.iload_n 3, 0, 0, 0) := zp_l zq_208 rfl
theorem zi_208_62 : rv E d 208 62 [l0, l1, l2, .int x] [] h = rv E d 208 63 [l0, l1, l2, .int x] [.int x] h := rv_loc zp_208_62 rfl rfl
theorem zp_208_63 : zP1 208 63 = some (.invokestatic 110, 200, 1, 0) := zp_r zq_208 rfl
-- call PeaceRingModel.isCell
theorem zi_208_63 {s0 : Int32} : rv E (d + 1) 208 63 [l0, l1, l2, l3] [.int s0] h = (rv E d 200 0 [.int s0] [] h).bind (zth E (d + 1) 208 66 [l0, l1, l2, l3] [] h) := rv_calls (as := [.int s0]) (rest := []) zp_208_63 (by decide) (zM_of zq_200) rfl ⟨Nat.le_of_ble_eq_true rfl, Nat.le_of_ble_eq_true rfl⟩
theorem zp_208_66 : zP1 208 66 = some (.ifCond .eq 11, 0, 0, 0) := zp_l zq_208 rfl
theorem zi_208_66 : rv E d 208 66 [l0, l1, l2, l3] [.int x] h = if x = 0 then rv E d 208 77 [l0, l1, l2, l3] [] h else rv E d 208 69 [l0, l1, l2, l3] [] h := rv_ifc zp_208_66 rfl rfl
theorem zp_208_69 : zP1 208 69 = some (.aload_n 0, 0, 0, 0) := zp_l zq_208 rfl
theorem zi_208_69 : rv E d 208 69 [.ref k, l1, l2, l3] [] h = rv E d 208 70 [.ref k, l1, l2, l3] [.ref k] h := rv_loc zp_208_69 rfl rfl
theorem zp_208_70 : zP1 208 70 = some (.iload_n 3, 0, 0, 0) := zp_l zq_208 rfl
theorem zi_208_70 {s0 : Nat} : rv E d 208 70 [l0, l1, l2, .int x] [.ref s0] h = rv E d 208 71 [l0, l1, l2, .int x] [.int x, .ref s0] h := rv_loc zp_208_70 rfl rfl
theorem zp_208_71 : zP1 208 71 = some (.invokevirtual 114, 203, 1, 11) := zp_r zq_208 rfl
-- call PeaceRingModel.isWall
theorem zi_208_71 {s0 : Int32} : rv E (d + 1) 208 71 [l0, l1, l2, l3] [.int s0, .ref k] h = if zrc h k 11 = true then (rv E d 203 0 [.ref k, .int s0] [] h).bind (zth E (d + 1) 208 74 [l0, l1, l2, l3] [] h) else none := rv_callv (as := [.int s0]) (rest := []) zp_208_71 (by decide) (by decide) (zM_of zq_203) rfl ⟨Nat.le_of_ble_eq_true rfl, Nat.le_of_ble_eq_true rfl⟩
theorem zp_208_74 : zP1 208 74 = some (.ifCond .eq 7, 0, 0, 0) := zp_l zq_208 rfl
theorem zi_208_74 : rv E d 208 74 [l0, l1, l2, l3] [.int x] h = if x = 0 then rv E d 208 81 [l0, l1, l2, l3] [] h else rv E d 208 77 [l0, l1, l2, l3] [] h := rv_ifc zp_208_74 rfl rfl
theorem zp_208_77 : zP1 208 77 = some (.iconst (-1), 0, 0, 0) := zp_l zq_208 rfl
theorem zi_208_77 : rv E d 208 77 [l0, l1, l2, l3] [] h = rv E d 208 78 [l0, l1, l2, l3] [.int (-1)] h := rv_const zp_208_77 (by decide)
theorem zp_208_78 : zP1 208 78 = some (.goto 4, 0, 0, 0) := zp_l zq_208 rfl
theorem zi_208_78 {s0 : Int32} : rv E d 208 78 [l0, l1, l2, l3] [.int s0] h = rv E d 208 82 [l0, l1, l2, l3] [.int s0] h := rv_goto zp_208_78 rfl
theorem zp_208_81 : zP1 208 81 = some (.iload_n 3, 0, 0, 0) := zp_l zq_208 rfl
theorem zi_208_81 : rv E d 208 81 [l0, l1, l2, .int x] [] h = rv E d 208 82 [l0, l1, l2, .int x] [.int x] h := rv_loc zp_208_81 rfl rfl
theorem zp_208_82 : zP1 208 82 = some (.ireturn, 0, 0, 0) := zp_l zq_208 rfl
theorem zi_208_82 : rv E d 208 82 [l0, l1, l2, l3] [.int x] h = some (some (.int x), h) := rv_reti zp_208_82 (zM_of zq_208)
theorem zp_323_0 : zP1 323 0 = some (.iload_n 0, 0, 0, 0) := zp_l zq_323 rfl
theorem zi_323_0 : rv E d 323 0 [.int x] [] h = rv E d 323 1 [.int x] [.int x] h := rv_loc zp_323_0 rfl rfl
theorem zp_323_1 : zP1 323 1 = some (.ifCond .ge 8, 0, 0, 0) := zp_l zq_323 rfl
theorem zi_323_1 : rv E d 323 1 [l0] [.int x] h = if 0 ≤ x then rv E d 323 9 [l0] [] h else rv E d 323 4 [l0] [] h := rv_ifc zp_323_1 rfl rfl
theorem zp_323_4 : zP1 323 4 = some (.iload_n 0, 0, 0, 0) := zp_l zq_323 rfl
theorem zi_323_4 : rv E d 323 4 [.int x] [] h = rv E d 323 5 [.int x] [.int x] h := rv_loc zp_323_4 rfl rfl
theorem zp_323_5 : zP1 323 5 = some (.ineg, 0, 0, 0) := zp_l zq_323 rfl
theorem zi_323_5 : rv E d 323 5 [l0] [.int x] h = rv E d 323 6 [l0] [.int (-x)] h := rv_stk zp_323_5 rfl rfl
theorem zp_323_6 : zP1 323 6 = some (.goto 4, 0, 0, 0) := zp_l zq_323 rfl
theorem zi_323_6 {s0 : Int32} : rv E d 323 6 [l0] [.int s0] h = rv E d 323 10 [l0] [.int s0] h := rv_goto zp_323_6 rfl
theorem zp_323_9 : zP1 323 9 = some (.iload_n 0, 0, 0, 0) := zp_l zq_323 rfl
theorem zi_323_9 : rv E d 323 9 [.int x] [] h = rv E d 323 10 [.int x] [.int x] h := rv_loc zp_323_9 rfl rfl
theorem zp_323_10 : zP1 323 10 = some (.ireturn, 0, 0, 0) := zp_l zq_323 rfl
theorem zi_323_10 : rv E d 323 10 [l0] [.int x] h = some (some (.int x), h) := rv_reti zp_323_10 (zM_of zq_323)
theorem zp_324_0 : zP1 324 0 = some (.iload_n 0, 0, 0, 0) := zp_l zq_324 rfl
theorem zi_324_0 : rv E d 324 0 [.int x, l1] [] h = rv E d 324 1 [.int x, l1] [.int x] h := rv_loc zp_324_0 rfl rfl
theorem zp_324_1 : zP1 324 1 = some (.iload_n 1, 0, 0, 0) := zp_l zq_324 rfl
theorem zi_324_1 {s0 : Int32} : rv E d 324 1 [l0, .int x] [.int s0] h = rv E d 324 2 [l0, .int x] [.int x, .int s0] h := rv_loc zp_324_1 rfl rfl
theorem zp_324_2 : zP1 324 2 = some (.if_icmp .lt 7, 0, 0, 0) := zp_l zq_324 rfl
theorem zi_324_2 : rv E d 324 2 [l0, l1] [.int y, .int x] h = if x < y then rv E d 324 9 [l0, l1] [] h else rv E d 324 5 [l0, l1] [] h := rv_icmp zp_324_2 rfl rfl
theorem zp_324_5 : zP1 324 5 = some (.iload_n 0, 0, 0, 0) := zp_l zq_324 rfl
theorem zi_324_5 : rv E d 324 5 [.int x, l1] [] h = rv E d 324 6 [.int x, l1] [.int x] h := rv_loc zp_324_5 rfl rfl
theorem zp_324_6 : zP1 324 6 = some (.goto 4, 0, 0, 0) := zp_l zq_324 rfl
theorem zi_324_6 {s0 : Int32} : rv E d 324 6 [l0, l1] [.int s0] h = rv E d 324 10 [l0, l1] [.int s0] h := rv_goto zp_324_6 rfl
theorem zp_324_9 : zP1 324 9 = some (.iload_n 1, 0, 0, 0) := zp_l zq_324 rfl
theorem zi_324_9 : rv E d 324 9 [l0, .int x] [] h = rv E d 324 10 [l0, .int x] [.int x] h := rv_loc zp_324_9 rfl rfl
theorem zp_324_10 : zP1 324 10 = some (.ireturn, 0, 0, 0) := zp_l zq_324 rfl
theorem zi_324_10 : rv E d 324 10 [l0, l1] [.int x] h = some (some (.int x), h) := rv_reti zp_324_10 (zM_of zq_324)
theorem zp_325_0 : zP1 325 0 = some (.iload_n 0, 0, 0, 0) := zp_l zq_325 rfl
theorem zi_325_0 : rv E d 325 0 [.int x, l1] [] h = rv E d 325 1 [.int x, l1] [.int x] h := rv_loc zp_325_0 rfl rfl
theorem zp_325_1 : zP1 325 1 = some (.iload_n 1, 0, 0, 0) := zp_l zq_325 rfl
theorem zi_325_1 {s0 : Int32} : rv E d 325 1 [l0, .int x] [.int s0] h = rv E d 325 2 [l0, .int x] [.int x, .int s0] h := rv_loc zp_325_1 rfl rfl
theorem zp_325_2 : zP1 325 2 = some (.if_icmp .gt 7, 0, 0, 0) := zp_l zq_325 rfl
theorem zi_325_2 : rv E d 325 2 [l0, l1] [.int y, .int x] h = if y < x then rv E d 325 9 [l0, l1] [] h else rv E d 325 5 [l0, l1] [] h := rv_icmp zp_325_2 rfl rfl
theorem zp_325_5 : zP1 325 5 = some (.iload_n 0, 0, 0, 0) := zp_l zq_325 rfl
theorem zi_325_5 : rv E d 325 5 [.int x, l1] [] h = rv E d 325 6 [.int x, l1] [.int x] h := rv_loc zp_325_5 rfl rfl
theorem zp_325_6 : zP1 325 6 = some (.goto 4, 0, 0, 0) := zp_l zq_325 rfl
theorem zi_325_6 {s0 : Int32} : rv E d 325 6 [l0, l1] [.int s0] h = rv E d 325 10 [l0, l1] [.int s0] h := rv_goto zp_325_6 rfl
theorem zp_325_9 : zP1 325 9 = some (.iload_n 1, 0, 0, 0) := zp_l zq_325 rfl
theorem zi_325_9 : rv E d 325 9 [l0, .int x] [] h = rv E d 325 10 [l0, .int x] [.int x] h := rv_loc zp_325_9 rfl rfl
theorem zp_325_10 : zP1 325 10 = some (.ireturn, 0, 0, 0) := zp_l zq_325 rfl
theorem zi_325_10 : rv E d 325 10 [l0, l1] [.int x] h = some (some (.int x), h) := rv_reti zp_325_10 (zM_of zq_325)
end ZI
