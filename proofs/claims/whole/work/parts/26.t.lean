theorem tst_abs {E : zS} {d : Nat} {x : Int32} {h : zH} : rv E d 323 0 [.int x] [] h = some (some (.int (if 0 ≤ x then x else -x)), h) := by
  simp only [zi_323_0, zi_323_1, zi_323_4, zi_323_5, zi_323_6, zi_323_9, zi_323_10]
  split <;> rfl
theorem tst_within {E : zS} {d : Nat} {v lo hi : Int32} {h : zH} : rv E d 199 0 [.int v, .int lo, .int hi] [] h = some (some (.int (if lo ≤ v ∧ v ≤ hi then 1 else 0)), h) := by
  simp only [zi_199_0, zi_199_1, zi_199_2, zi_199_5, zi_199_6, zi_199_7, zi_199_10, zi_199_11, zi_199_14, zi_199_15]
  trace_state
  sorry
