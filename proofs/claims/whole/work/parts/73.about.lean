/-! The stones about a cell. -/
section AB
variable {e : List Int32 × Value} {d : Nat} {m : zMm}
theorem L_about {c mi st : Int} (hr : Rng m) (iN : cNum m (m 247)) (iS : cSto m (m 247)) (hw : ∀ s, 0 ≤ s → s < m 247 2 → isWay (wall (m 247)) (m 247 (254 + 2 * s)) (m (196 + s.toNat))) (h6 : m 202 6 = mi) (h7 : m 202 7 = st) (hst : st = 0 ∨ st = 1) (c0 : 0 ≤ c) (c1 : c < 100) : Z e (d + 2) 22 0 [.ref 202, .int (iI c), .retAddr 0, .retAddr 0, .retAddr 0, .retAddr 0] [] m = ri (abt (m 247) mi st c) m := by
  have bN := iN
  unfold cNum at bN
  have wc : wr c = c := wr_of (by omega) (by omega)
  have key := lpG (F := fun i y (u : Value × Value) => Z e (d + 2) 22 4 [.ref 202, .int (iI c), .int (iI y), .int (iI i), u.1, u.2] [] m) (G := fun y => ri y m) (f := fun s b => cif (wi (m 247) mi st c s) (jor b (jshl 1 s)) b) (I := fun _ _ => True) (n := m 247 2) (by omega) 0 (.retAddr 0, .retAddr 0) trivial
    (by
      intro i y u g1 g2 gI
      have q := iS i g1 g2
      have wi0 : wr i = i := wr_of (by omega) (by omega)
      have w0 := wayS_eq (hw i g1 g2) c0 c1
      have jb := jfar_b q.1.2.1 q.1.2.2 c0 c1
      have wj := wr_jfar q.1.2.1 q.1.2.2 c0 c1
      have ww : wr (wayS (m 247) (m 247 (254 + 2 * i)) c) = wayS (m 247) (m 247 (254 + 2 * i)) c := by rw [← w0]; exact hr _ _
      have wmi : wr mi = mi := by rw [← h6]; exact hr _ _
      rcases hst with z | z
      · refine ⟨⟨(.int (iI (m 247 (254 + 2 * i))), .int (iI (wayS (m 247) (m 247 (254 + 2 * i)) c))), ?_⟩, trivial⟩
        rw [z] at h7
        refine (b_22_4).trans ?_
        by_cases a : ¬ wayS (m 247) (m 247 (254 + 2 * i)) c = -3 ∧ wayS (m 247) (m 247 (254 + 2 * i)) c ≤ mi
        · rw [cif_t (show wi (m 247) mi st c i from Or.inr ⟨by omega, a⟩)]
          obtain ⟨a1, a2⟩ := a
          simp (disch := first | omega | (simp (disch := first | decide | omega) only [um_k, um_e, um_i, uz_k]; omega) | exact cat_i | exact cat_u | exact cat_r | assumption | exact rfl) only [b_22_36, get_6, q.1.1, h6, h7, wi0, wc, w0, ww, wmi, hr _ _, a1, a2, wr_of, ↓reduceIte, ck_T, lt_T, lt_F, le_T, le_F, eq_T, eq_F, and_true, true_and, and_false, false_and, or_true, true_or, or_false, false_or, and_self, or_self, not_true_eq_false, not_false_eq_true, implies_true, forall_const, true_implies, false_implies, ri_k, rn_k, rr_k, wr_bi, bi_e0, bi_e1, bi_T, bi_F, Classical.not_not, itp, itn, ck_t]
        · rw [cif_f (show ¬ wi (m 247) mi st c i from fun y => y.elim (fun x => by omega) (fun x => a x.2))]
          by_cases a1 : wayS (m 247) (m 247 (254 + 2 * i)) c = -3
          · simp (disch := first | omega | (simp (disch := first | decide | omega) only [um_k, um_e, um_i, uz_k]; omega) | exact cat_i | exact cat_u | exact cat_r | assumption | exact rfl) only [b_22_36, get_6, q.1.1, h6, h7, wi0, wc, w0, ww, wmi, hr _ _, a1, wr_of, ↓reduceIte, ck_T, lt_T, lt_F, le_T, le_F, eq_T, eq_F, and_true, true_and, and_false, false_and, or_true, true_or, or_false, false_or, and_self, or_self, not_true_eq_false, not_false_eq_true, implies_true, forall_const, true_implies, false_implies, ri_k, rn_k, rr_k, wr_bi, bi_e0, bi_e1, bi_T, bi_F, Classical.not_not, itp, itn, ck_t]
          · have a2 : ¬ wayS (m 247) (m 247 (254 + 2 * i)) c ≤ mi := fun x => a ⟨a1, x⟩
            simp (disch := first | omega | (simp (disch := first | decide | omega) only [um_k, um_e, um_i, uz_k]; omega) | exact cat_i | exact cat_u | exact cat_r | assumption | exact rfl) only [b_22_36, get_6, q.1.1, h6, h7, wi0, wc, w0, ww, wmi, hr _ _, a1, a2, wr_of, ↓reduceIte, ck_T, lt_T, lt_F, le_T, le_F, eq_T, eq_F, and_true, true_and, and_false, false_and, or_true, true_or, or_false, false_or, and_self, or_self, not_true_eq_false, not_false_eq_true, implies_true, forall_const, true_implies, false_implies, ri_k, rn_k, rr_k, wr_bi, bi_e0, bi_e1, bi_T, bi_F, Classical.not_not, itp, itn, ck_t]
      · refine ⟨⟨(.int (iI (m 247 (254 + 2 * i))), .int (iI (jfar (m 247 (254 + 2 * i)) c))), ?_⟩, trivial⟩
        rw [z] at h7
        refine (b_22_4).trans ?_
        by_cases a : jfar (m 247 (254 + 2 * i)) c ≤ mi
        · rw [cif_t (show wi (m 247) mi st c i from Or.inl ⟨z, a⟩)]
          simp (disch := first | omega | (simp (disch := first | decide | omega) only [um_k, um_e, um_i, uz_k]; omega) | exact cat_i | exact cat_u | exact cat_r | assumption | exact rfl) only [b_22_36, get_6, q.1.1, h6, h7, wi0, wc, wj, wmi, hr _ _, a, wr_of, ↓reduceIte, ck_T, lt_T, lt_F, le_T, le_F, eq_T, eq_F, and_true, true_and, and_false, false_and, or_true, true_or, or_false, false_or, and_self, or_self, not_true_eq_false, not_false_eq_true, implies_true, forall_const, true_implies, false_implies, ri_k, rn_k, rr_k, wr_bi, bi_e0, bi_e1, bi_T, bi_F, Classical.not_not, itp, itn, ck_t]
        · rw [cif_f (show ¬ wi (m 247) mi st c i from fun y => y.elim (fun x => a x.2) (fun x => x.1 z))]
          simp (disch := first | omega | (simp (disch := first | decide | omega) only [um_k, um_e, um_i, uz_k]; omega) | exact cat_i | exact cat_u | exact cat_r | assumption | exact rfl) only [b_22_36, get_6, q.1.1, h6, h7, wi0, wc, wj, wmi, hr _ _, a, wr_of, ↓reduceIte, ck_T, lt_T, lt_F, le_T, le_F, eq_T, eq_F, and_true, true_and, and_false, false_and, or_true, true_or, or_false, false_or, and_self, or_self, not_true_eq_false, not_false_eq_true, implies_true, forall_const, true_implies, false_implies, ri_k, rn_k, rr_k, wr_bi, bi_e0, bi_e1, bi_T, bi_F, Classical.not_not, itp, itn, ck_t])
    (by
      intro y u gI
      refine (b_22_4).trans ?_
      simp (disch := first | omega | (simp (disch := first | decide | omega) only [um_k, um_e, um_i, uz_k]; omega) | exact cat_i | exact cat_u | exact cat_r | assumption | exact rfl) only [hr _ _, wr_of, ↓reduceIte, ck_T, lt_T, lt_F, le_T, le_F, eq_T, eq_F, and_true, true_and, and_false, false_and, or_true, true_or, or_false, false_or, and_self, or_self, not_true_eq_false, not_false_eq_true, implies_true, forall_const, true_implies, false_implies, ri_k, rn_k, rr_k, wr_bi, bi_e0, bi_e1, bi_T, bi_F, Classical.not_not, itp, itn, ck_t])
  rw [b_22_0]
  exact key.1
end AB
