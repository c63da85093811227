/-! THE RUN. -/
section RN
variable {ys : List Int32} {v0 : Value}
theorem p_0_4 : zP1 0 4 = some (.invokespecial 9, 138, 0, 0) := zp_r zq_0 rfl
theorem p_138_46 : zP1 138 46 = some (.invokespecial 28, 87, 1, 0) := zp_r zq_138 rfl
theorem p_138_152 : zP1 138 152 = some (.return_, 0, 0, 0) := zp_l zq_138 rfl
theorem p_87_163 : zP1 87 163 = some (.return_, 0, 0, 0) := zp_l zq_87 rfl
theorem run_87 : rvS (zE0 ys v0) 198 87 (zks zk_7) = some (none, (zks zk_17).2.2.2) :=
  (zchk_ok zc_7).trans <| (zchk_ok zc_8).trans <| (zchk_ok zc_9).trans <| (zchk_ok zc_10).trans <| (zchk_ok zc_11).trans <| (zchk_ok zc_12).trans <| (zchk_ok zc_13).trans <| (zchk_ok zc_14).trans <| (zchk_ok zc_15).trans <| (zchk_ok zc_16).trans <| rv_ret p_87_163 rfl (zM_of zq_87)
theorem f_6 : ((zks zk_6).2.1 ++ [Value.ref 191, .ref 0]).all (zfree (zks zk_6).2.2.2.length (zks zk_17).2.2.2.length) = true := by decide +kernel
theorem f_1 : ((zks zk_1).2.1 ++ [Value.ref 0]).all (zfree (zks zk_1).2.2.2.length (zks zk_24).2.2.2.length) = true := by decide +kernel
set_option maxRecDepth 100000 in
theorem run_6 : rvS (zE0 ys v0) 199 138 (zks zk_6) = rvS (zE0 ys v0) 199 138 (zks zk_18) := by
  have c := rv_call (E := zE0 ys v0) (d := 198) (mi := 138) (pc := 46) (L := (zks zk_6).2.1) (st := (zks zk_6).2.2.1) (h := (zks zk_6).2.2.2) (as := [.ref 191, .ref 1]) (rest := [.ref 191, .ref 0]) p_138_46 rfl (zM_of zq_87) rfl ⟨by decide, by decide⟩
  refine c.trans ((congrArg (fun X => Option.bind X _) (run_87 (ys := ys) (v0 := v0))).trans ?_)
  rw [Option.bind_some]
  refine (if_pos (Or.inr f_6)).trans ?_
  rfl
theorem run_138 : rvS (zE0 ys v0) 199 138 (zks zk_2) = some (none, (zks zk_24).2.2.2) :=
  (zchk_ok zc_2).trans <| (zchk_ok zc_3).trans <| (zchk_ok zc_4).trans <| (zchk_ok zc_5).trans <| run_6.trans <| (zchk_ok zc_18).trans <| (zchk_ok zc_19).trans <| (zchk_ok zc_20).trans <| (zchk_ok zc_21).trans <| (zchk_ok zc_22).trans <| (zchk_ok zc_23).trans <| rv_ret p_138_152 rfl (zM_of zq_138)
set_option maxRecDepth 100000 in
theorem run_1 : rvS (zE0 ys v0) 200 0 (zks zk_1) = rvS (zE0 ys v0) 200 0 (zks zk_25) := by
  have c := rv_call (E := zE0 ys v0) (d := 199) (mi := 0) (pc := 4) (L := (zks zk_1).2.1) (st := (zks zk_1).2.2.1) (h := (zks zk_1).2.2.2) (as := [.ref 0]) (rest := [.ref 0]) p_0_4 rfl (zM_of zq_138) rfl ⟨by decide, by decide⟩
  refine c.trans ((congrArg (fun X => Option.bind X _) (run_138 (ys := ys) (v0 := v0))).trans ?_)
  rw [Option.bind_some]
  refine (if_pos (Or.inr f_1)).trans ?_
  rfl
theorem run_start : rvS (zE0 ys v0) 200 0 (zks zk_0) = rvS (zE0 ys v0) 200 0 (zks zk_28) :=
  (zchk_ok zc_0).trans <| run_1.trans <| (zchk_ok zc_25).trans <| (zchk_ok zc_26).trans (zchk_ok zc_27)
theorem z_run (ys : List Int32) (hys : ys.length ≤ 448) (v0 : Value) (hv : v0 = .null ∨ v0 = .ref 10301) : ∃ n h', zexec (zPof zprog zpool) (zMof zprog) (zE0 ys v0) n 200 0 0 (zent 4 [.ref 10303]) [] [] = some (some (.int 1), h') ∧ h'.length ≤ 9000 ∧ zslots h' ≤ 7000000 := by
  obtain ⟨m', h⟩ := law_loop (e := (ys, v0)) hv hys 455 0 mz (by show (ys.length : Int) - 0 ≤ ((455 : Nat) : Int); omega) (by decide) (by decide) Inv_mz
  have hh : zkh zh0 = hp mz := zeqH_ok _ _ hp_mz
  have st : rv (zE0 ys v0) 200 0 18 [.ref 10303, .ref 0, .ref 246, .int (iI 0)] [] (zkh zh0) = some (some (.int (iI 1)), hp m') := by
    rw [hh]
    exact h
  have all : rv (zE0 ys v0) 200 0 0 (zent 4 [.ref 10303]) [] [] = some (some (.int (iI 1)), hp m') := (run_start (ys := ys) (v0 := v0)).trans st
  obtain ⟨n, hn⟩ := rv_iff.mp all
  refine ⟨n, hp m', hn, by rw [hp_len]; decide, ?_⟩
  rw [zslots_hp (m := m') (m' := mz), ← hh, zslots_0]
  decide
end RN
