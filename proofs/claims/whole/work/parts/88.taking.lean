/-! taking. -/
section TK
variable {e : List Int32 × Value} {d : Nat} {m m0 : zMm} {N : Int → Int}
theorem fst1_cg {P Q : Int → Prop} {n : Int} (h : ∀ i, 0 ≤ i → i < n → (P i ↔ Q i)) : fst1 P n = fst1 Q n := by
  unfold fst1
  refine itr_cg _ _ _ (fun i y h1 h2 => ?_)
  exact cif_cg (and_congr Iff.rfl (h i h1 (by omega)))
theorem whyS_k {o p g h k k' : Int} (hk : ∀ q, 0 ≤ q → q < N 4 → N (794 + 6 * q + 5) ≤ k ∧ N (794 + 6 * q + 5) ≤ k') : whyS N o p g h k = whyS N o p g h k' := by
  have e1 : ff N o p g h k = ff N o p g h k' := fst1_cg (fun q q0 q1 => by
    have := hk q q0 q1
    unfold fls
    exact and_congr (and_congr Iff.rfl (and_congr Iff.rfl ⟨fun _ => this.2, fun _ => this.1⟩)) Iff.rfl)
  unfold whyS
  rw [e1]
theorem known_b (iD : cDee m (m 247)) : ∀ q, 0 ≤ q → q < m 247 4 → m 247 (794 + 6 * q + 5) ≤ 9999 ∧ m 247 (794 + 6 * q + 5) ≤ 1000000 := by
  intro q q0 q1
  have dq := iD q q0 q1
  unfold dRow at dq
  omega
theorem call_taking {t w : Int} (hI : Inv m) (ht : wr t = t) (hw : wr w = w) : Both (Z e (d + 7) 166 0 [.ref 0, .int (iI (t)), .int (iI (w)), .retAddr 0] []) (Z e (d + 13) 275 0 [.ref 246, .int (iI (t)), .int (iI (w)), .retAddr 0, .retAddr 0] []) m := by
  obtain ⟨hr, ⟨iN, iG, iP, iH, iS, iD, iT, iO, iU, iR, iV⟩, iK, iL, iF, iB, iA, iW, iX⟩ := id hI
  have bN := iN
  unfold cNum at bN
  by_cases h1 : 0 ≤ t ∧ t < m 247 5 ∧ 0 ≤ w ∧ w ≤ 5
  · obtain ⟨t0, t1, w0, w5⟩ := h1
    have q := iT t t0 t1
    unfold tRow at q
    obtain ⟨qf, q6, q1, q2, q3, q5⟩ := q
    by_cases hw5 : w = 5
    · subst hw5
      have y6 : wr (938 + 7 * t + 6) = 938 + 7 * t + 6 := wr_of (by omega) (by omega)
      have y1 : wr (938 + 7 * t + 1) = 938 + 7 * t + 1 := wr_of (by omega) (by omega)
      have y2 : wr (938 + 7 * t + 2) = 938 + 7 * t + 2 := wr_of (by omega) (by omega)
      have y3 : wr (938 + 7 * t + 3) = 938 + 7 * t + 3 := wr_of (by omega) (by omega)
      have y5 : wr (938 + 7 * t + 5) = 938 + 7 * t + 5 := wr_of (by omega) (by omega)
      have f1 := qf 1 (by decide) (by decide)
      have f2 := qf 2 (by decide) (by decide)
      have f3 := qf 3 (by decide) (by decide)
      have f5 := qf 5 (by decide) (by decide)
      by_cases h6 : m 247 (938 + 7 * t + 6) = 1
      · have g6 : m 13 (t * 7 + 6) = 0 := by omega
        obtain ⟨m1, a1, a2⟩ := L_reason (e := e) (d := d) (p := m 247 (938 + 7 * t + 1)) (c := m 247 (938 + 7 * t + 3)) (h := m 247 (938 + 7 * t + 2)) (k := 9999) hI (hr _ _) rfl q3.1 q3.2 q2.1 (by omega)
        have hI1 := AS_Inv hI a2
        have en := AS_n a2
        obtain ⟨m2, b1, b2⟩ := M_whyI (e := e) (d := d) (p := m 247 (938 + 7 * t + 1)) (c := m 247 (938 + 7 * t + 3)) (h := m 247 (938 + 7 * t + 2)) (k := 1000000) hI1 (hr _ _) rfl q3.1 q3.2 q2.1 (by omega)
        rw [en, ← whyS_k (k := 9999) (k' := 1000000) (known_b iD)] at b1
        have ww := wr_whyS (N := m 247) (o := -1) (p := m 247 (938 + 7 * t + 1)) (g := deg (m 247) (mile (m 247) (-1) (m 247 (938 + 7 * t + 2))) (strt (m 247) (-1) (m 247 (938 + 7 * t + 2))) (m 247 (938 + 7 * t + 3))) (h := m 247 (938 + 7 * t + 2)) (k := 9999) (by omega)
        generalize whyS (m 247) (-1) (m 247 (938 + 7 * t + 1)) (deg (m 247) (mile (m 247) (-1) (m 247 (938 + 7 * t + 2))) (strt (m 247) (-1) (m 247 (938 + 7 * t + 2))) (m 247 (938 + 7 * t + 3))) (m 247 (938 + 7 * t + 2)) 9999 = W at *
        by_cases z : W = -3
        · refine ⟨m 247 (938 + 7 * t + 5) + 0, m1, m2, ?_, ?_, Inv_ref hI1 b2⟩
          · simp (disch := first | omega | (simp (disch := first | decide | omega) only [um_k, um_e, um_i, uz_k]; omega) | exact cat_i | exact cat_u | exact cat_r | assumption | exact rfl) only [b_166_0, b_166_37, b_166_51, b_37_0, b_37_13, b_37_31, b_37_44, b_37_60, b_37_66, get_12, ht, hr _ _, f1, f2, f3, f5, g6, a1, ww, z, Int.add_zero, wr_of, ↓reduceIte, ck_T, lt_T, lt_F, le_T, le_F, eq_T, eq_F, and_true, true_and, and_false, false_and, or_true, true_or, or_false, false_or, and_self, or_self, not_true_eq_false, not_false_eq_true, implies_true, forall_const, true_implies, false_implies, ri_k, rn_k, rr_k, wr_bi, bi_e0, bi_e1, bi_T, bi_F, Classical.not_not, itp, itn, ck_t]
          · simp (disch := first | omega | (simp (disch := first | decide | omega) only [um_k, um_e, um_i, uz_k]; omega) | exact cat_i | exact cat_u | exact cat_r | assumption | exact rfl) only [b_275_0, b_275_102, b_275_94, b_258_0, b_258_9, ht, en, hr _ _, y1, y2, y3, y5, y6, h6, b1, b2.n, ww, z, wr_of, ↓reduceIte, ck_T, lt_T, lt_F, le_T, le_F, eq_T, eq_F, and_true, true_and, and_false, false_and, or_true, true_or, or_false, false_or, and_self, or_self, not_true_eq_false, not_false_eq_true, implies_true, forall_const, true_implies, false_implies, ri_k, rn_k, rr_k, wr_bi, bi_e0, bi_e1, bi_T, bi_F, Classical.not_not, itp, itn, ck_t]
        · refine ⟨m 247 (938 + 7 * t + 5) + 2, m1, m2, ?_, ?_, Inv_ref hI1 b2⟩
          · simp (disch := first | omega | (simp (disch := first | decide | omega) only [um_k, um_e, um_i, uz_k]; omega) | exact cat_i | exact cat_u | exact cat_r | assumption | exact rfl) only [b_166_0, b_166_37, b_166_51, b_37_0, b_37_13, b_37_31, b_37_44, b_37_60, b_37_66, get_12, ht, hr _ _, f1, f2, f3, f5, g6, a1, ww, z, wr_of, ↓reduceIte, ck_T, lt_T, lt_F, le_T, le_F, eq_T, eq_F, and_true, true_and, and_false, false_and, or_true, true_or, or_false, false_or, and_self, or_self, not_true_eq_false, not_false_eq_true, implies_true, forall_const, true_implies, false_implies, ri_k, rn_k, rr_k, wr_bi, bi_e0, bi_e1, bi_T, bi_F, Classical.not_not, itp, itn, ck_t]
          · simp (disch := first | omega | (simp (disch := first | decide | omega) only [um_k, um_e, um_i, uz_k]; omega) | exact cat_i | exact cat_u | exact cat_r | assumption | exact rfl) only [b_275_0, b_275_102, b_275_94, b_258_0, b_258_9, ht, en, hr _ _, y1, y2, y3, y5, y6, h6, b1, b2.n, ww, z, wr_of, ↓reduceIte, ck_T, lt_T, lt_F, le_T, le_F, eq_T, eq_F, and_true, true_and, and_false, false_and, or_true, true_or, or_false, false_or, and_self, or_self, not_true_eq_false, not_false_eq_true, implies_true, forall_const, true_implies, false_implies, ri_k, rn_k, rr_k, wr_bi, bi_e0, bi_e1, bi_T, bi_F, Classical.not_not, itp, itn, ck_t]
      · have g6 : m 13 (t * 7 + 6) = 1 := by omega
        refine Both.same hI (m 247 (938 + 7 * t + 5) + 0) ?_ ?_
        · simp (disch := first | omega | (simp (disch := first | decide | omega) only [um_k, um_e, um_i, uz_k]; omega) | exact cat_i | exact cat_u | exact cat_r | assumption | exact rfl) only [b_166_0, b_166_37, b_166_51, b_37_0, b_37_13, b_37_31, b_37_44, b_37_60, b_37_66, get_12, ht, hr _ _, f1, f2, f3, f5, g6, Int.add_zero, wr_of, ↓reduceIte, ck_T, lt_T, lt_F, le_T, le_F, eq_T, eq_F, and_true, true_and, and_false, false_and, or_true, true_or, or_false, false_or, and_self, or_self, not_true_eq_false, not_false_eq_true, implies_true, forall_const, true_implies, false_implies, ri_k, rn_k, rr_k, wr_bi, bi_e0, bi_e1, bi_T, bi_F, Classical.not_not, itp, itn, ck_t]
        · simp (disch := first | omega | (simp (disch := first | decide | omega) only [um_k, um_e, um_i, uz_k]; omega) | exact cat_i | exact cat_u | exact cat_r | assumption | exact rfl) only [b_275_0, b_275_102, b_275_94, ht, hr _ _, y1, y2, y3, y5, y6, h6, wr_of, ↓reduceIte, ck_T, lt_T, lt_F, le_T, le_F, eq_T, eq_F, and_true, true_and, and_false, false_and, or_true, true_or, or_false, false_or, and_self, or_self, not_true_eq_false, not_false_eq_true, implies_true, forall_const, true_implies, false_implies, ri_k, rn_k, rr_k, wr_bi, bi_e0, bi_e1, bi_T, bi_F, Classical.not_not, itp, itn, ck_t]
    · have fw := qf w w0 (by omega)
      have yw : wr (938 + 7 * t + w) = 938 + 7 * t + w := wr_of (by omega) (by omega)
      refine Both.same hI (m 247 (938 + 7 * t + w)) ?_ ?_
      · simp (disch := first | omega | (simp (disch := first | decide | omega) only [um_k, um_e, um_i, uz_k]; omega) | exact cat_i | exact cat_u | exact cat_r | assumption | exact rfl) only [b_166_0, b_166_37, b_166_51, get_12, ht, hw, hr _ _, fw, wr_of, ↓reduceIte, ck_T, lt_T, lt_F, le_T, le_F, eq_T, eq_F, and_true, true_and, and_false, false_and, or_true, true_or, or_false, false_or, and_self, or_self, not_true_eq_false, not_false_eq_true, implies_true, forall_const, true_implies, false_implies, ri_k, rn_k, rr_k, wr_bi, bi_e0, bi_e1, bi_T, bi_F, Classical.not_not, itp, itn, ck_t]
      · simp (disch := first | omega | (simp (disch := first | decide | omega) only [um_k, um_e, um_i, uz_k]; omega) | exact cat_i | exact cat_u | exact cat_r | assumption | exact rfl) only [b_275_0, b_275_102, b_275_94, ht, hw, hr _ _, yw, wr_of, ↓reduceIte, ck_T, lt_T, lt_F, le_T, le_F, eq_T, eq_F, and_true, true_and, and_false, false_and, or_true, true_or, or_false, false_or, and_self, or_self, not_true_eq_false, not_false_eq_true, implies_true, forall_const, true_implies, false_implies, ri_k, rn_k, rr_k, wr_bi, bi_e0, bi_e1, bi_T, bi_F, Classical.not_not, itp, itn, ck_t]
  · refine Both.same hI (-1) ?_ ?_
    · simp (disch := first | omega | (simp (disch := first | decide | omega) only [um_k, um_e, um_i, uz_k]; omega) | exact cat_i | exact cat_u | exact cat_r | assumption | exact rfl) only [b_166_0, ht, hw, hr _ _, wr_of, ↓reduceIte, ck_T, lt_T, lt_F, le_T, le_F, eq_T, eq_F, and_true, true_and, and_false, false_and, or_true, true_or, or_false, false_or, and_self, or_self, not_true_eq_false, not_false_eq_true, implies_true, forall_const, true_implies, false_implies, ri_k, rn_k, rr_k, wr_bi, bi_e0, bi_e1, bi_T, bi_F, Classical.not_not, itp, itn, ck_t]
    · simp (disch := first | omega | (simp (disch := first | decide | omega) only [um_k, um_e, um_i, uz_k]; omega) | exact cat_i | exact cat_u | exact cat_r | assumption | exact rfl) only [b_275_0, ht, hw, hr _ _, wr_of, ↓reduceIte, ck_T, lt_T, lt_F, le_T, le_F, eq_T, eq_F, and_true, true_and, and_false, false_and, or_true, true_or, or_false, false_or, and_self, or_self, not_true_eq_false, not_false_eq_true, implies_true, forall_const, true_implies, false_implies, ri_k, rn_k, rr_k, wr_bi, bi_e0, bi_e1, bi_T, bi_F, Classical.not_not, itp, itn, ck_t]
end TK
