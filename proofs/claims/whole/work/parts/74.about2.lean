/-! The stones about a cell: the reference. -/
section AC
variable {e : List Int32 × Value} {d : Nat} {m : zMm}
theorem M_about {c mi st : Int} {u2 u7 : Value} (hr : Rng m) (b2 : 0 ≤ m 247 2 ∧ m 247 2 ≤ 6) (hS : ∀ s, 0 ≤ s → s < m 247 2 → 0 ≤ m 247 (254 + 2 * s) ∧ m 247 (254 + 2 * s) < 100) (hw : ∀ s, 0 ≤ s → s < m 247 2 → isWay (wall (m 247)) (m 247 (254 + 2 * s)) (fun c => if m 254 (100 * s + c) = 1000 then -3 else m 254 (100 * s + c))) (hv : ∀ s, 0 ≤ s → s < m 247 2 → ∀ c, 0 ≤ c → c < 100 → ¬ m 254 (100 * s + c) = -3) (m0 : -1000 < mi) (m1 : mi < 1000) (hst : st = 0 ∨ st = 1) (c0 : 0 ≤ c) (c1 : c < 100) : Z e (d + 2) 223 58 [.ref 246, .int (iI c), u2, .int (iI mi), .int (iI st), .int (iI 0), .int (iI 0), u7] [] m = ri (abt (m 247) mi st c) m := by
  have wc : wr c = c := wr_of (by omega) (by omega)
  have wmi : wr mi = mi := wr_of (by omega) (by omega)
  have key := lpG (F := fun i y (u : Value) => Z e (d + 2) 223 58 [.ref 246, .int (iI c), u2, .int (iI mi), .int (iI st), .int (iI y), .int (iI i), u] [] m) (G := fun y => ri y m) (f := fun s b => cif (wi (m 247) mi st c s) (jor b (jshl 1 s)) b) (I := fun _ y => wr y = y) (n := m 247 2) b2.1 0 u7 rfl
    (by
      intro i y u g1 g2 gI
      have q := hS i g1 g2
      have w0 := wayS_eq (hw i g1 g2) c0 c1
      have hv0 := hv i g1 g2 c c0 c1
      have wj := wr_jfar q.1 q.2 c0 c1
      have we : wr (254 + 2 * i) = 254 + 2 * i := wr_of (by omega) (by omega)
      have wf : wr (100 * i + c) = 100 * i + c := wr_of (by omega) (by omega)
      refine ⟨?_, ?_⟩
      · rcases hst with z | z
        · have ws : wr st = 0 := by rw [z]; rfl
          have hc : wi (m 247) mi st c i ↔ m 254 (100 * i + c) ≤ mi := by
            unfold wi
            rw [← w0]
            by_cases t : m 254 (100 * i + c) = 1000
            · rw [if_pos t]
              constructor
              · rintro (x | x)
                · omega
                · exact absurd rfl x.2.1
              · intro x; omega
            · rw [if_neg t]
              constructor
              · rintro (x | x)
                · omega
                · exact x.2.2
              · intro x; exact Or.inr ⟨by omega, hv0, x⟩
          refine ⟨.int (iI (m 254 (100 * i + c))), ?_⟩
          refine (b_223_58).trans ?_
          by_cases a : m 254 (100 * i + c) ≤ mi
          · rw [cif_t (hc.mpr a)]
            simp (disch := first | omega | (simp (disch := first | decide | omega) only [um_k, um_e, um_i, uz_k]; omega) | exact cat_i | exact cat_u | exact cat_r | assumption | exact rfl) only [ws, we, wf, wmi, hr _ _, a, wr_of, ↓reduceIte, ck_T, lt_T, lt_F, le_T, le_F, eq_T, eq_F, and_true, true_and, and_false, false_and, or_true, true_or, or_false, false_or, and_self, or_self, not_true_eq_false, not_false_eq_true, implies_true, forall_const, true_implies, false_implies, ri_k, rn_k, rr_k, wr_bi, bi_e0, bi_e1, bi_T, bi_F, Classical.not_not, itp, itn, ck_t]
          · rw [cif_f (fun x => a (hc.mp x))]
            simp (disch := first | omega | (simp (disch := first | decide | omega) only [um_k, um_e, um_i, uz_k]; omega) | exact cat_i | exact cat_u | exact cat_r | assumption | exact rfl) only [ws, we, wf, wmi, hr _ _, a, jor_0 gI, wr_of, ↓reduceIte, ck_T, lt_T, lt_F, le_T, le_F, eq_T, eq_F, and_true, true_and, and_false, false_and, or_true, true_or, or_false, false_or, and_self, or_self, not_true_eq_false, not_false_eq_true, implies_true, forall_const, true_implies, false_implies, ri_k, rn_k, rr_k, wr_bi, bi_e0, bi_e1, bi_T, bi_F, Classical.not_not, itp, itn, ck_t]
        · have ws : wr st = 1 := by rw [z]; rfl
          refine ⟨.int (iI (jfar (m 247 (254 + 2 * i)) c)), ?_⟩
          refine (b_223_58).trans ?_
          by_cases a : jfar (m 247 (254 + 2 * i)) c ≤ mi
          · rw [cif_t (show wi (m 247) mi st c i from Or.inl ⟨z, a⟩)]
            simp (disch := first | omega | (simp (disch := first | decide | omega) only [um_k, um_e, um_i, uz_k]; omega) | exact cat_i | exact cat_u | exact cat_r | assumption | exact rfl) only [ws, we, wf, wj, wmi, hr _ _, a, wr_of, ↓reduceIte, ck_T, lt_T, lt_F, le_T, le_F, eq_T, eq_F, and_true, true_and, and_false, false_and, or_true, true_or, or_false, false_or, and_self, or_self, not_true_eq_false, not_false_eq_true, implies_true, forall_const, true_implies, false_implies, ri_k, rn_k, rr_k, wr_bi, bi_e0, bi_e1, bi_T, bi_F, Classical.not_not, itp, itn, ck_t]
          · rw [cif_f (show ¬ wi (m 247) mi st c i from fun y => y.elim (fun x => a x.2) (fun x => x.1 z))]
            simp (disch := first | omega | (simp (disch := first | decide | omega) only [um_k, um_e, um_i, uz_k]; omega) | exact cat_i | exact cat_u | exact cat_r | assumption | exact rfl) only [ws, we, wf, wj, wmi, hr _ _, a, jor_0 gI, wr_of, ↓reduceIte, ck_T, lt_T, lt_F, le_T, le_F, eq_T, eq_F, and_true, true_and, and_false, false_and, or_true, true_or, or_false, false_or, and_self, or_self, not_true_eq_false, not_false_eq_true, implies_true, forall_const, true_implies, false_implies, ri_k, rn_k, rr_k, wr_bi, bi_e0, bi_e1, bi_T, bi_F, Classical.not_not, itp, itn, ck_t]
      · by_cases hs : wi (m 247) mi st c i
        · rw [cif_t hs]; exact wr_jor
        · rw [cif_f hs]; exact gI)
    (by
      intro y u gI
      refine (b_223_58).trans ?_
      simp (disch := first | omega | (simp (disch := first | decide | omega) only [um_k, um_e, um_i, uz_k]; omega) | exact cat_i | exact cat_u | exact cat_r | assumption | exact rfl) only [hr _ _, wr_of, ↓reduceIte, ck_T, lt_T, lt_F, le_T, le_F, eq_T, eq_F, and_true, true_and, and_false, false_and, or_true, true_or, or_false, false_or, and_self, or_self, not_true_eq_false, not_false_eq_true, implies_true, forall_const, true_implies, false_implies, ri_k, rn_k, rr_k, wr_bi, bi_e0, bi_e1, bi_T, bi_F, Classical.not_not, itp, itn, ck_t])
  exact key.1
end AC
