/-! Numbers. -/
theorem jdiv_n {x y : Int} (h0 : 0 ≤ x) (h1 : x < 2147483648) (h2 : 0 < y) (h3 : y < 2147483648) : jdiv x y = x / y := by
  unfold jdiv
  rw [wr_of (by omega) h1, wr_of (by omega) h3, Int.tdiv_eq_ediv_of_nonneg h0]
theorem jrem_n {x y : Int} (h0 : 0 ≤ x) (h1 : x < 2147483648) (h2 : 0 < y) (h3 : y < 2147483648) : jrem x y = x % y := by
  unfold jrem
  rw [wr_of (by omega) h1, wr_of (by omega) h3, Int.tmod_eq_emod_of_nonneg h0]
theorem msb_lt {a : Int32} : a.toBitVec.msb = decide (a.toInt < 0) := BitVec.msb_eq_toInt
theorem jxor_neg {x y : Int} : jxor x y < 0 ↔ ¬ (wr x < 0 ↔ wr y < 0) := by
  have h1 : (iI x ^^^ iI y).toBitVec.msb = ((iI x).toBitVec.msb ^^ (iI y).toBitVec.msb) := BitVec.msb_xor
  rw [msb_lt, msb_lt, msb_lt, iI_toInt, iI_toInt] at h1
  unfold jxor
  by_cases hx : wr x < 0 <;> by_cases hy : wr y < 0 <;> simp [hx, hy] at h1 ⊢ <;> omega
section AR
variable {e : List Int32 × Value} {d : Nat} {m : zMm}
theorem floorMod_ok {x y : Int} (h0 : -1000000 ≤ x) (h1 : x < 1000000) (h2 : 0 < y) (h3 : y < 1000000) : Z e d 322 0 [.int (iI x), .int (iI y), .retAddr 0] [] m = ri (x % y) m := by
  have hx : wr x = x := wr_of (by omega) (by omega)
  have hy : wr y = y := wr_of (by omega) (by omega)
  have hw : wr (jxor x y) = jxor x y := wr_jxor
  have hm : jrem x y = x.tmod y := by unfold jrem; rw [hx, hy]
  have h5 := Int.emod_nonneg x (show y ≠ 0 by omega)
  have h6 := Int.emod_lt_of_pos x h2
  have h7 := Int.tmod_eq_emod (a := x) (b := y)
  have hj := jxor_neg (x := x) (y := y)
  rw [hx, hy] at hj
  rw [b_322_0, hy, ck_t (by omega)]
  by_cases hd : 0 ≤ x ∨ y ∣ x
  · rw [if_pos hd] at h7
    have h8 : jrem x y = x % y := by rw [hm]; omega
    have h9 : wr (jrem x y) = jrem x y := by rw [h8]; exact wr_of (by omega) (by omega)
    rw [itn, h8]
    rintro ⟨q1, q2⟩
    rw [h9, h8] at q2
    rcases hd with hd | hd
    · exact absurd (hj.mp q1) (by omega)
    · exact q2 (Int.emod_eq_zero_of_dvd hd)
  · rw [if_neg hd] at h7
    have h8 : jrem x y = x % y - y := by rw [hm]; omega
    have h9 : wr (jrem x y) = jrem x y := by rw [h8]; exact wr_of (by omega) (by omega)
    rw [itp ⟨hj.mpr (by omega), by rw [h9, h8]; omega⟩, h8]
    congr 1
    omega
end AR
