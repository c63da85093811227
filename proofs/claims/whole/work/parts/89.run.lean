/-- THE RUN: what is left to prove -/
theorem z_run (ys : List Int32) (hys : ys.length ≤ 448) (v0 : Value) (hv : v0 = .null ∨ v0 = .ref 10301) : ∃ n h', zexec (zPof zprog zpool) (zMof zprog) (zE0 ys v0) n 200 0 0 (zent 4 [.ref 10303]) [] [] = some (some (.int 1), h') ∧ h'.length ≤ 9000 ∧ zslots h' ≤ 7000000 := sorry
