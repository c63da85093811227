/-! The reference's search. -/
section FW
variable {e : List Int32 × Value} {d : Nat} {m : zMm}
theorem stepTo_ok {c s : Int} (c0 : 0 ≤ c) (c1 : c < 100) (s0 : 0 ≤ s) (s1 : s < 4) (hr : Rng m) : Z e (d + 2) 208 0 [.ref 246, .int (iI c), .int (iI s), .retAddr 0] [] m = ri (if nbr c s = -3 ∨ m 247 (10 + nbr c s) = 1 then -1 else nbr c s) m := by
  have hs : s = 0 ∨ s = 1 ∨ s = 2 ∨ s = 3 := by omega
  have hj : jrem c 10 = c % 10 := jrem_n c0 (by omega) (by decide) (by decide)
  have wc : wr c = c := wr_of (by omega) (by omega)
  have mc : wr (c % 10) = c % 10 := wr_of (by omega) (by omega)
  rcases hs with q | q | q | q <;> subst q
  · by_cases h : 10 ≤ c
    · have e1 : nbr c 0 = c - 10 := by simp [nbr, h]
      rw [b_208_0, e1]
      have h1 : wr (c - 10) = c - 10 := wr_of (by omega) (by omega)
      have h2 : wr (10 + (c - 10)) = 10 + (c - 10) := wr_of (by omega) (by omega)
      by_cases g : m 247 (10 + (c - 10)) = 1 <;> simp (disch := first | omega | (simp (disch := first | decide | omega) only [um_k, um_e, um_i, uz_k]; omega) | exact cat_i | exact cat_u | exact cat_r | assumption | exact rfl) only [hr _ _, g, h1, h2, wr_of, ↓reduceIte, ck_T, lt_T, lt_F, le_T, le_F, eq_T, eq_F, and_true, true_and, and_false, false_and, or_true, true_or, or_false, false_or, and_self, or_self, not_true_eq_false, not_false_eq_true, implies_true, forall_const, true_implies, false_implies, ri_k, rn_k, rr_k, wr_bi, bi_e0, bi_e1, bi_T, bi_F, Classical.not_not, itp, itn, ck_t]
    · have e1 : nbr c 0 = -3 := by simp [nbr, h]
      rw [b_208_0, e1]
      have h1 : wr (c - 10) = c - 10 := wr_of (by omega) (by omega)
      simp (disch := first | omega | (simp (disch := first | decide | omega) only [um_k, um_e, um_i, uz_k]; omega) | exact cat_i | exact cat_u | exact cat_r | assumption | exact rfl) only [h1, wr_of, ↓reduceIte, ck_T, lt_T, lt_F, le_T, le_F, eq_T, eq_F, and_true, true_and, and_false, false_and, or_true, true_or, or_false, false_or, and_self, or_self, not_true_eq_false, not_false_eq_true, implies_true, forall_const, true_implies, false_implies, ri_k, rn_k, rr_k, wr_bi, bi_e0, bi_e1, bi_T, bi_F, Classical.not_not, itp, itn, ck_t]
  · by_cases h : 0 < c % 10
    · have e1 : nbr c 1 = c - 1 := by simp [nbr, h]
      rw [b_208_0, e1]
      have h1 : wr (c - 1) = c - 1 := wr_of (by omega) (by omega)
      have h2 : wr (10 + (c - 1)) = 10 + (c - 1) := wr_of (by omega) (by omega)
      by_cases g : m 247 (10 + (c - 1)) = 1 <;> simp (disch := first | omega | (simp (disch := first | decide | omega) only [um_k, um_e, um_i, uz_k]; omega) | exact cat_i | exact cat_u | exact cat_r | assumption | exact rfl) only [hj, mc, hr _ _, g, h1, h2, wr_of, ↓reduceIte, ck_T, lt_T, lt_F, le_T, le_F, eq_T, eq_F, and_true, true_and, and_false, false_and, or_true, true_or, or_false, false_or, and_self, or_self, not_true_eq_false, not_false_eq_true, implies_true, forall_const, true_implies, false_implies, ri_k, rn_k, rr_k, wr_bi, bi_e0, bi_e1, bi_T, bi_F, Classical.not_not, itp, itn, ck_t]
    · have e1 : nbr c 1 = -3 := by simp [nbr, h]
      rw [b_208_0, e1]
      simp (disch := first | omega | (simp (disch := first | decide | omega) only [um_k, um_e, um_i, uz_k]; omega) | exact cat_i | exact cat_u | exact cat_r | assumption | exact rfl) only [hj, mc, wr_of, ↓reduceIte, ck_T, lt_T, lt_F, le_T, le_F, eq_T, eq_F, and_true, true_and, and_false, false_and, or_true, true_or, or_false, false_or, and_self, or_self, not_true_eq_false, not_false_eq_true, implies_true, forall_const, true_implies, false_implies, ri_k, rn_k, rr_k, wr_bi, bi_e0, bi_e1, bi_T, bi_F, Classical.not_not, itp, itn, ck_t]
  · by_cases h : c % 10 < 9
    · have e1 : nbr c 2 = c + 1 := by simp [nbr, h]
      rw [b_208_0, e1]
      have h1 : wr (c + 1) = c + 1 := wr_of (by omega) (by omega)
      have h2 : wr (10 + (c + 1)) = 10 + (c + 1) := wr_of (by omega) (by omega)
      by_cases g : m 247 (10 + (c + 1)) = 1 <;> simp (disch := first | omega | (simp (disch := first | decide | omega) only [um_k, um_e, um_i, uz_k]; omega) | exact cat_i | exact cat_u | exact cat_r | assumption | exact rfl) only [hj, mc, hr _ _, g, h1, h2, wr_of, ↓reduceIte, ck_T, lt_T, lt_F, le_T, le_F, eq_T, eq_F, and_true, true_and, and_false, false_and, or_true, true_or, or_false, false_or, and_self, or_self, not_true_eq_false, not_false_eq_true, implies_true, forall_const, true_implies, false_implies, ri_k, rn_k, rr_k, wr_bi, bi_e0, bi_e1, bi_T, bi_F, Classical.not_not, itp, itn, ck_t]
    · have e1 : nbr c 2 = -3 := by simp [nbr, h]
      rw [b_208_0, e1]
      simp (disch := first | omega | (simp (disch := first | decide | omega) only [um_k, um_e, um_i, uz_k]; omega) | exact cat_i | exact cat_u | exact cat_r | assumption | exact rfl) only [hj, mc, wr_of, ↓reduceIte, ck_T, lt_T, lt_F, le_T, le_F, eq_T, eq_F, and_true, true_and, and_false, false_and, or_true, true_or, or_false, false_or, and_self, or_self, not_true_eq_false, not_false_eq_true, implies_true, forall_const, true_implies, false_implies, ri_k, rn_k, rr_k, wr_bi, bi_e0, bi_e1, bi_T, bi_F, Classical.not_not, itp, itn, ck_t]
  · by_cases h : c + 10 < 100
    · have e1 : nbr c 3 = c + 10 := by simp [nbr, h]
      rw [b_208_0, e1]
      have h1 : wr (c + 10) = c + 10 := wr_of (by omega) (by omega)
      have h2 : wr (10 + (c + 10)) = 10 + (c + 10) := wr_of (by omega) (by omega)
      by_cases g : m 247 (10 + (c + 10)) = 1 <;> simp (disch := first | omega | (simp (disch := first | decide | omega) only [um_k, um_e, um_i, uz_k]; omega) | exact cat_i | exact cat_u | exact cat_r | assumption | exact rfl) only [hj, mc, hr _ _, g, h1, h2, wr_of, ↓reduceIte, ck_T, lt_T, lt_F, le_T, le_F, eq_T, eq_F, and_true, true_and, and_false, false_and, or_true, true_or, or_false, false_or, and_self, or_self, not_true_eq_false, not_false_eq_true, implies_true, forall_const, true_implies, false_implies, ri_k, rn_k, rr_k, wr_bi, bi_e0, bi_e1, bi_T, bi_F, Classical.not_not, itp, itn, ck_t]
    · have e1 : nbr c 3 = -3 := by simp [nbr, h]
      rw [b_208_0, e1]
      have h1 : wr (c + 10) = c + 10 := wr_of (by omega) (by omega)
      simp (disch := first | omega | (simp (disch := first | decide | omega) only [um_k, um_e, um_i, uz_k]; omega) | exact cat_i | exact cat_u | exact cat_r | assumption | exact rfl) only [hj, mc, h1, wr_of, ↓reduceIte, ck_T, lt_T, lt_F, le_T, le_F, eq_T, eq_F, and_true, true_and, and_false, false_and, or_true, true_or, or_false, false_or, and_self, or_self, not_true_eq_false, not_false_eq_true, implies_true, forall_const, true_implies, false_implies, ri_k, rn_k, rr_k, wr_bi, bi_e0, bi_e1, bi_T, bi_F, Classical.not_not, itp, itn, ck_t]
end FW
