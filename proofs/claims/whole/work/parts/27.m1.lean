/-! The reference: small methods. -/
section M1
variable {E : zS} {d : Nat} {F : Nat → Nat → Int32} {A : Nat → List Int32}
theorem j_abs {x : Int32} {h : zH} : rv E d 323 0 [.int x] [] h = some (some (.int (if 0 ≤ x then x else -x)), h) := by
  simp only [zi_323_0, zi_323_1, zi_323_4, zi_323_5, zi_323_6, zi_323_9, zi_323_10]
  split <;> rfl
theorem M_within3 {v lo hi : Int32} {h : zH} : rv E d 199 0 [.int v, .int lo, .int hi] [] h = some (some (.int (if lo ≤ v ∧ v ≤ hi then nI 1 else nI 0)), h) := by
  simp only [zi_199_0, zi_199_1, zi_199_2, zi_199_5, zi_199_6, zi_199_7, zi_199_10, zi_199_11, zi_199_14, zi_199_15, nb0, nb1, if_true]
  by_cases h1 : v < lo
  · have : ¬ (lo ≤ v ∧ v ≤ hi) := fun q => absurd q.1 (Int32.not_le.mpr h1)
    simp [h1, this]
  · by_cases h2 : hi < v
    · have : ¬ (lo ≤ v ∧ v ≤ hi) := fun q => absurd q.2 (Int32.not_le.mpr h2)
      simp [h1, h2, this]
    · have : lo ≤ v ∧ v ≤ hi := ⟨Int32.not_lt.mp h1, Int32.not_lt.mp h2⟩
      simp [h1, h2, this]
theorem M_isWall {c : Nat} (hN : (A 247).length = 2737) (hc : c < 100) : rv E d 203 0 [.ref 246, .int (nI c)] [] (hp F A) = some (some (.int (if gI (A 247) (10 + c) = nI 1 then nI 1 else nI 0)), hp F A) := by
  simp (disch := first | exact cat_i | exact cat_r | exact cat_u | assumption | omega) only [zi_203_0, zi_203_1, zi_203_4, zi_203_6, zi_203_7, zi_203_8, zi_203_9, zi_203_10, zi_203_13, zi_203_14, zi_203_17, zi_203_18, itp, itn, nI_ltI, nI_leI, nI_eq, nI_n0, nI_p0, Option.bind_some, Option.map_some, Option.bind_none, Option.map_none, zth_i, zth_n, zth_r, nI_add, pk_mul, pk_sub, pk_div, pk_rem, zix_nI, nb0, nb1, if_true, if_false, mf_246_0, mg_247, hN]
  split <;> simp_all
theorem M_of {p f : Nat} {h : zH} : rv E d 204 0 [.int (nI p), .int (nI f)] [] h = some (some (.int (nI (110 + 9 * p + f))), h) := by
  simp only [zi_204_0, zi_204_2, zi_204_4, zi_204_5, zi_204_6, zi_204_7, zi_204_8, zi_204_9, nI_add, pk_mul]
end M1
