/-! who. -/
def whP (N : Int → Int) (s i : Int) : Prop := N (110 + 9 * i + 2) = 4 ∧ (N (1234 + 3 * s + 2) = 0 ∨ N (1234 + 3 * s + 2) = N (110 + 9 * i + 1)) ∧ ¬ wayS N (N (1234 + 3 * s + 0)) (N (110 + 9 * i + 0)) = -3 ∧ wayS N (N (1234 + 3 * s + 0)) (N (110 + 9 * i + 0)) ≤ N (110 + 9 * i + 1) * ((N (1234 + 3 * s + 1) + 4) % 24)
noncomputable def whS (N : Int → Int) (s : Int) : Int := itr (fun p b => cif (whP N s p) (jor b (jshl 1 p)) b) 0 (N 1).toNat 0
theorem mul_b {a b : Int} (h0 : 1 ≤ a) (h1 : a ≤ 4) (h2 : 0 ≤ b) (h3 : b < 24) : 0 ≤ a * b ∧ a * b ≤ 92 := by
  have : a = 1 ∨ a = 2 ∨ a = 3 ∨ a = 4 := by omega
  rcases this with q | q | q | q <;> subst q <;> omega
section WH
variable {e : List Int32 × Value} {d : Nat} {m : zMm}
theorem P_wh {s : Int} (hI : Inv m) (h0 : 0 ≤ s) (h1 : s < m 247 8) (hw : isWay (wall (m 247)) (m 247 (1234 + 3 * s + 0)) (m 194)) : Z e (d + 2) 91 20 [.ref 191, .int (iI s), .retAddr 0, .retAddr 0, .retAddr 0, .retAddr 0, .retAddr 0, .retAddr 0, .retAddr 0] [] m = ri (whS (m 247) s) m := by
  obtain ⟨hr, ⟨iN, iG, iP, iH, iS, iD, iT, iO, iU, iR, iV⟩, iK, iL, iF, iB, iA, iW, iX⟩ := id hI
  have bN := iN
  unfold cNum at bN
  have q := iU s h0 h1
  have e1 := q.1 1 (by decide) (by decide)
  have e2 := q.1 2 (by decide) (by decide)
  have b0 : 0 ≤ (m 247 (1234 + 3 * s + 1) + 4) % 24 ∧ (m 247 (1234 + 3 * s + 1) + 4) % 24 < 24 := by omega
  have ej : jrem (m 247 (1234 + 3 * s + 1) + 24 - 20) 24 = (m 247 (1234 + 3 * s + 1) + 4) % 24 := by
    rw [jrem_n (by omega) (by omega) (by decide) (by decide)]
    omega
  have key := lpG (F := fun i y (u : Value × Value × Value) => Z e (d + 2) 91 61 [.ref 191, .int (iI s), .int (iI (m 247 (1234 + 3 * s + 2))), .int (iI ((m 247 (1234 + 3 * s + 1) + 4) % 24)), .int (iI y), .int (iI i), u.1, u.2.1, u.2.2] [] m) (G := fun y => ri y m) (f := fun p b => cif (whP (m 247) s p) (jor b (jshl 1 p)) b) (I := fun _ _ => True) (n := m 247 1) (by omega) 0 (.retAddr 0, .retAddr 0, .retAddr 0) trivial
    (by
      intro i y u g1 g2 gI
      have p := iP i g1 g2
      have p0 := p.1 0 (by decide) (by decide)
      have p1 := p.1 1 (by decide) (by decide)
      have pb := p.2.1
      have pc := p.2.2.1
      have w0 := wayS_eq hw pb.1 pb.2
      have mb := mul_b pc.1 pc.2 b0.1 b0.2
      have wb : wr (wayS (m 247) (m 247 (1234 + 3 * s + 0)) (m 247 (110 + 9 * i + 0))) = wayS (m 247) (m 247 (1234 + 3 * s + 0)) (m 247 (110 + 9 * i + 0)) := by rw [← w0]; exact hr _ _
      have wm : wr (m 247 (110 + 9 * i + 1) * ((m 247 (1234 + 3 * s + 1) + 4) % 24)) = m 247 (110 + 9 * i + 1) * ((m 247 (1234 + 3 * s + 1) + 4) % 24) := wr_of (by omega) (by omega)
      refine ⟨⟨(.int (iI (m 247 (110 + 9 * i + 1))), .int (iI (wayS (m 247) (m 247 (1234 + 3 * s + 0)) (m 247 (110 + 9 * i + 0)))), .int (iI (if m 247 (110 + 9 * i + 2) = 4 ∧ (m 247 (1234 + 3 * s + 2) = 0 ∨ m 247 (1234 + 3 * s + 2) = m 247 (110 + 9 * i + 1)) then 1 else 0))), ?_⟩, trivial⟩
      refine (b_91_61).trans ?_
      by_cases c1 : m 247 (110 + 9 * i + 2) = 4
      · by_cases c2 : m 247 (1234 + 3 * s + 2) = 0 ∨ m 247 (1234 + 3 * s + 2) = m 247 (110 + 9 * i + 1)
        · by_cases c3 : wayS (m 247) (m 247 (1234 + 3 * s + 0)) (m 247 (110 + 9 * i + 0)) = -3
          · simp (disch := first | omega | (simp (disch := first | decide | omega) only [um_k, um_e, um_i, uz_k]; omega) | exact cat_i | exact cat_u | exact cat_r | assumption | exact rfl) only [b_91_89, b_91_108, b_91_121, get_4, p0, p1, w0, wb, wm, c3, hr _ _, W_isIn hr iN iP g1 g2 (s := 4) rfl, bi_t c1, cif_f (show ¬ whP (m 247) s i from fun q => q.2.2.1 c3), c1, c2, wr_of, ↓reduceIte, ck_T, lt_T, lt_F, le_T, le_F, eq_T, eq_F, and_true, true_and, and_false, false_and, or_true, true_or, or_false, false_or, and_self, or_self, not_true_eq_false, not_false_eq_true, implies_true, forall_const, true_implies, false_implies, ri_k, rn_k, rr_k, wr_bi, bi_e0, bi_e1, bi_T, bi_F, Classical.not_not, itp, itn, ck_t]
          · by_cases c4 : wayS (m 247) (m 247 (1234 + 3 * s + 0)) (m 247 (110 + 9 * i + 0)) ≤ m 247 (110 + 9 * i + 1) * ((m 247 (1234 + 3 * s + 1) + 4) % 24)
            · simp (disch := first | omega | (simp (disch := first | decide | omega) only [um_k, um_e, um_i, uz_k]; omega) | exact cat_i | exact cat_u | exact cat_r | assumption | exact rfl) only [b_91_89, b_91_108, b_91_121, get_4, p0, p1, w0, wb, wm, c3, c4, hr _ _, W_isIn hr iN iP g1 g2 (s := 4) rfl, bi_t c1, cif_t (show whP (m 247) s i from ⟨c1, c2, c3, c4⟩), c1, c2, wr_of, ↓reduceIte, ck_T, lt_T, lt_F, le_T, le_F, eq_T, eq_F, and_true, true_and, and_false, false_and, or_true, true_or, or_false, false_or, and_self, or_self, not_true_eq_false, not_false_eq_true, implies_true, forall_const, true_implies, false_implies, ri_k, rn_k, rr_k, wr_bi, bi_e0, bi_e1, bi_T, bi_F, Classical.not_not, itp, itn, ck_t]
            · simp (disch := first | omega | (simp (disch := first | decide | omega) only [um_k, um_e, um_i, uz_k]; omega) | exact cat_i | exact cat_u | exact cat_r | assumption | exact rfl) only [b_91_89, b_91_108, b_91_121, get_4, p0, p1, w0, wb, wm, c3, c4, hr _ _, W_isIn hr iN iP g1 g2 (s := 4) rfl, bi_t c1, cif_f (show ¬ whP (m 247) s i from fun q => c4 q.2.2.2), c1, c2, wr_of, ↓reduceIte, ck_T, lt_T, lt_F, le_T, le_F, eq_T, eq_F, and_true, true_and, and_false, false_and, or_true, true_or, or_false, false_or, and_self, or_self, not_true_eq_false, not_false_eq_true, implies_true, forall_const, true_implies, false_implies, ri_k, rn_k, rr_k, wr_bi, bi_e0, bi_e1, bi_T, bi_F, Classical.not_not, itp, itn, ck_t]
        · simp (disch := first | omega | (simp (disch := first | decide | omega) only [um_k, um_e, um_i, uz_k]; omega) | exact cat_i | exact cat_u | exact cat_r | assumption | exact rfl) only [b_91_89, b_91_108, b_91_121, get_4, p0, p1, w0, wb, wm, hr _ _, W_isIn hr iN iP g1 g2 (s := 4) rfl, bi_t c1, cif_f (show ¬ whP (m 247) s i from fun q => c2 q.2.1), c1, c2, wr_of, ↓reduceIte, ck_T, lt_T, lt_F, le_T, le_F, eq_T, eq_F, and_true, true_and, and_false, false_and, or_true, true_or, or_false, false_or, and_self, or_self, not_true_eq_false, not_false_eq_true, implies_true, forall_const, true_implies, false_implies, ri_k, rn_k, rr_k, wr_bi, bi_e0, bi_e1, bi_T, bi_F, Classical.not_not, itp, itn, ck_t]
      · simp (disch := first | omega | (simp (disch := first | decide | omega) only [um_k, um_e, um_i, uz_k]; omega) | exact cat_i | exact cat_u | exact cat_r | assumption | exact rfl) only [b_91_89, b_91_108, b_91_121, get_4, p0, p1, w0, wb, wm, hr _ _, W_isIn hr iN iP g1 g2 (s := 4) rfl, bi_f c1, cif_f (show ¬ whP (m 247) s i from fun q => c1 q.1), c1, wr_of, ↓reduceIte, ck_T, lt_T, lt_F, le_T, le_F, eq_T, eq_F, and_true, true_and, and_false, false_and, or_true, true_or, or_false, false_or, and_self, or_self, not_true_eq_false, not_false_eq_true, implies_true, forall_const, true_implies, false_implies, ri_k, rn_k, rr_k, wr_bi, bi_e0, bi_e1, bi_T, bi_F, Classical.not_not, itp, itn, ck_t])
    (by
      intro y u gI
      refine (b_91_61).trans ?_
      simp (disch := first | omega | (simp (disch := first | decide | omega) only [um_k, um_e, um_i, uz_k]; omega) | exact cat_i | exact cat_u | exact cat_r | assumption | exact rfl) only [hr _ _, wr_of, ↓reduceIte, ck_T, lt_T, lt_F, le_T, le_F, eq_T, eq_F, and_true, true_and, and_false, false_and, or_true, true_or, or_false, false_or, and_self, or_self, not_true_eq_false, not_false_eq_true, implies_true, forall_const, true_implies, false_implies, ri_k, rn_k, rr_k, wr_bi, bi_e0, bi_e1, bi_T, bi_F, Classical.not_not, itp, itn, ck_t])
  unfold whS
  rw [← key.1]
  simp (disch := first | omega | (simp (disch := first | decide | omega) only [um_k, um_e, um_i, uz_k]; omega) | exact cat_i | exact cat_u | exact cat_r | assumption | exact rfl) only [b_91_20, b_91_32, b_91_45, get_16, e1, e2, ej, wr_of, ↓reduceIte, ck_T, lt_T, lt_F, le_T, le_F, eq_T, eq_F, and_true, true_and, and_false, false_and, or_true, true_or, or_false, false_or, and_self, or_self, not_true_eq_false, not_false_eq_true, implies_true, forall_const, true_implies, false_implies, ri_k, rn_k, rr_k, wr_bi, bi_e0, bi_e1, bi_T, bi_F, Classical.not_not, itp, itn, ck_t]
end WH
