/-! keep, again. -/
section KP
variable {e : List Int32 × Value} {d : Nat} {m : zMm}
theorem call_keep (hI : Inv m) : Both (Z e (d + 2) 192 0 [.ref 0] []) (Z e d 319 0 [.ref 246, .retAddr 0] []) m := by
  obtain ⟨hr, ⟨iN, iG, iP, iH, iS, iD, iT, iO, iU, iR, iV⟩, iK, iL, iF, iB, iA, iW, iX⟩ := id hI
  have bN := iN
  unfold cNum at bN
  obtain ⟨ma, a1, a2, a3, a4, a5, a6, a7, a8, a9, a10, a11, a12, a13, a14⟩ := cp_90 (e := e) (d := d) (m := m) hr (by omega) (by omega) (by omega) (by omega) (by omega) (by omega) (by omega) (by omega)
  have ra : Rng (um ma 0 9 1) := a2.um rfl
  obtain ⟨mb, b1, b2⟩ := lpM (m := um ma 0 9 1) (c := 248) (ix := fun i => i) (g := fun i => m 247 i) (n := 2737) (F := fun i m' => Z e d 319 2 [.ref 246, .int (iI i)] [] m') (by decide) (fun p q _ _ _ => by omega) (by
    intro i m' g1 g2 A
    have q : m' 247 i = m 247 i := by rw [A.1 247 (by decide), um_k (by decide), a3 247 (by decide)]
    refine (b_319_2).trans ?_
    simp (disch := first | omega | (simp (disch := first | decide | omega) only [um_k, um_e, um_i, uz_k]; omega) | exact cat_i | exact cat_u | exact cat_r | assumption | exact rfl) only [q, wr_of, ↓reduceIte, ck_T, lt_T, lt_F, le_T, le_F, eq_T, eq_F, and_true, true_and, and_false, false_and, or_true, true_or, or_false, false_or, and_self, or_self, not_true_eq_false, not_false_eq_true, implies_true, forall_const, true_implies, false_implies, ri_k, rn_k, rr_k, wr_bi, bi_e0, bi_e1, bi_T, bi_F, Classical.not_not, itp, itn, ck_t])
  have rb : Rng mb := Fill.rng ra (fun i _ _ => hr _ _) b2
  have b3 : Z e d 319 2 [.ref 246, .int (iI 2737)] [] mb = ri 1 (um mb 246 2 1) := by
    refine (b_319_2).trans ?_
    simp (disch := first | omega | (simp (disch := first | decide | omega) only [um_k, um_e, um_i, uz_k]; omega) | exact cat_i | exact cat_u | exact cat_r | assumption | exact rfl) only [wr_of, ↓reduceIte, ck_T, lt_T, lt_F, le_T, le_F, eq_T, eq_F, and_true, true_and, and_false, false_and, or_true, true_or, or_false, false_or, and_self, or_self, not_true_eq_false, not_false_eq_true, implies_true, forall_const, true_implies, false_implies, ri_k, rn_k, rr_k, wr_bi, bi_e0, bi_e1, bi_T, bi_F, Classical.not_not, itp, itn, ck_t]
  refine ⟨1, um ma 0 9 1, um mb 246 2 1, ?_, ?_, ?_⟩
  · simp (disch := first | omega | (simp (disch := first | decide | omega) only [um_k, um_e, um_i, uz_k]; omega) | exact cat_i | exact cat_u | exact cat_r | assumption | exact rfl) only [b_192_0, b_192_11, a1, wr_of, ↓reduceIte, ck_T, lt_T, lt_F, le_T, le_F, eq_T, eq_F, and_true, true_and, and_false, false_and, or_true, true_or, or_false, false_or, and_self, or_self, not_true_eq_false, not_false_eq_true, implies_true, forall_const, true_implies, false_implies, ri_k, rn_k, rr_k, wr_bi, bi_e0, bi_e1, bi_T, bi_F, Classical.not_not, itp, itn, ck_t]
  · rw [← b3, ← b1, b_319_0]
  · have f : ∀ k, (k < 90 ∨ 179 ≤ k) → ¬ k = 0 → ¬ k = 246 → ¬ k = 248 → um mb 246 2 1 k = m k := fun k q1 q2 q3 q4 => by rw [um_r q3, b2.1 k q4, um_r q2, a3 k (by omega)]
    have fk : ∀ k, 90 ≤ k → k < 179 → um mb 246 2 1 k = ma k := fun k q1 q2 => by rw [um_r (by omega), b2.1 k (by omega), um_r (by omega)]
    have f246 : ∀ i, ¬ i = 2 → um mb 246 2 1 246 i = m 246 i := fun i q => by rw [um_i q, b2.1 246 (by decide), um_k (by decide), a3 246 (by decide)]
    have f247 : um mb 246 2 1 247 = m 247 := f 247 (by decide) (by decide) (by decide) (by decide)
    have f248 : ∀ i, 0 ≤ i → i < 2737 → um mb 246 2 1 248 i = m 247 i := fun i q1 q2 => by rw [um_k (by decide)]; exact b2.2.1 i q1 q2
    have hC : Core m (m 247) := ⟨iN, iG, iP, iH, iS, iD, iT, iO, iU, iR, iV⟩
    have hK : Core (fun k => ma (k + 89)) (m 247) := Core_cp (F := m) (F' := fun k => ma (k + 89)) a4.1 a4.2.1 a4.2.2 a5.1 a5.2.1 a5.2.2.1 a5.2.2.2.1 a5.2.2.2.2.1 a5.2.2.2.2.2.1 a5.2.2.2.2.2.2 a6 a7 a8 a9 a10 a11 a12 a13 (fun v g1 g2 j g3 g4 => by
        have := (a14 v g1 g2).1 j g3 g4
        rw [← this]
        show ma (18 + 6 * v.toNat + 89) j = _
        rw [show 18 + 6 * v.toNat + 89 = 107 + 6 * v.toNat by omega]) (fun v g1 g2 q q1 q4 j g3 g4 => by
        have := (a14 v g1 g2).2.1 q q1 q4 j g3 g4
        rw [← this]
        show ma (18 + 6 * v.toNat + q + 89) j = _
        rw [show 18 + 6 * v.toNat + q + 89 = 107 + 6 * v.toNat + q by omega]) (fun v g1 g2 j g3 g4 => by
        have := (a14 v g1 g2).2.2 j g3 g4
        rw [← this]
        show ma (18 + 6 * v.toNat + 5 + 89) j = _
        rw [show 18 + 6 * v.toNat + 5 + 89 = 107 + 6 * v.toNat + 5 by omega]) hC
    refine ⟨rb.um rfl, Core_cg (fun k _ _ => f k (by omega) (by omega) (by omega) (by omega)) (fun i _ _ => by rw [f247]) hC, ?_, LawOK_cg (f 202 (by decide) (by decide) (by decide) (by decide)) (f 204 (by decide) (by decide) (by decide) (by decide)) (f 205 (by decide) (by decide) (by decide) (by decide)) (fun k _ _ => f k (by omega) (by omega) (by omega) (by omega)) (by omega) (by rw [f247]) iL, RefOK_cg (f246 12 (by decide)) (f246 13 (by decide)) (f246 14 (by decide)) (f 254 (by decide) (by decide) (by decide) (by decide)) (by rw [f247]) iF, beside_cg (f 192 (by decide) (by decide) (by decide) (by decide)) iB, Tape_cg (by rw [f 179 (by decide) (by decide) (by decide) (by decide)]) (f246 4 (by decide)) (f 180 (by decide) (by decide) (by decide) (by decide)) (f 249 (by decide) (by decide) (by decide) (by decide)) iA, Rows_cg (by rw [f 230 (by decide) (by decide) (by decide) (by decide)]) (f246 7 (by decide)) (f246 8 (by decide)) (by rw [f 226 (by decide) (by decide) (by decide) (by decide)]) (by rw [f 232 (by decide) (by decide) (by decide) (by decide)]) (f 231 (by decide) (by decide) (by decide) (by decide)) (f 250 (by decide) (by decide) (by decide) (by decide)) (f 233 (by decide) (by decide) (by decide) (by decide)) (f 251 (by decide) (by decide) (by decide) (by decide)) iW, Host_cg (fun k _ _ => f k (by omega) (by omega) (by omega) (by omega)) (by rw [f 234 (by decide) (by decide) (by decide) (by decide)]) (f246 35 (by decide)) (fun k _ _ => f k (by omega) (by omega) (by omega) (by omega)) iX⟩
    refine ⟨?_, Or.inr ⟨um_s, ?_⟩⟩
    · rw [um_s, um_k (by decide), b2.1 0 (by decide), um_s]
    · exact Core_cg (fun k _ _ => fk (k + 89) (by omega) (by omega)) f248 hK
theorem call_again (hI : Inv m) : Both (Z e (d + 2) 193 0 [.ref 0] []) (Z e d 320 0 [.ref 246, .retAddr 0] []) m := by
  obtain ⟨hr, ⟨iN, iG, iP, iH, iS, iD, iT, iO, iU, iR, iV⟩, iK, iL, iF, iB, iA, iW, iX⟩ := id hI
  have bN := iN
  unfold cNum at bN
  have k0 := iK.1
  rcases iK.2 with hk | ⟨hk, hC⟩
  · refine Both.same hI (-3) ?_ ?_
    · simp (disch := first | omega | (simp (disch := first | decide | omega) only [um_k, um_e, um_i, uz_k]; omega) | exact cat_i | exact cat_u | exact cat_r | assumption | exact rfl) only [b_193_0, hr _ _, wr_of, ↓reduceIte, ck_T, lt_T, lt_F, le_T, le_F, eq_T, eq_F, and_true, true_and, and_false, false_and, or_true, true_or, or_false, false_or, and_self, or_self, not_true_eq_false, not_false_eq_true, implies_true, forall_const, true_implies, false_implies, ri_k, rn_k, rr_k, wr_bi, bi_e0, bi_e1, bi_T, bi_F, Classical.not_not, itp, itn, ck_t]
    · simp (disch := first | omega | (simp (disch := first | decide | omega) only [um_k, um_e, um_i, uz_k]; omega) | exact cat_i | exact cat_u | exact cat_r | assumption | exact rfl) only [b_320_0, hr _ _, wr_of, ↓reduceIte, ck_T, lt_T, lt_F, le_T, le_F, eq_T, eq_F, and_true, true_and, and_false, false_and, or_true, true_or, or_false, false_or, and_self, or_self, not_true_eq_false, not_false_eq_true, implies_true, forall_const, true_implies, false_implies, ri_k, rn_k, rr_k, wr_bi, bi_e0, bi_e1, bi_T, bi_F, Classical.not_not, itp, itn, ck_t]
  · have bK := hC.1
    unfold cNum at bK
    simp only [Nat.reduceAdd] at bK
    obtain ⟨ma, a1, a2, a3, a4, a5, a6, a7, a8, a9, a10, a11, a12, a13, a14⟩ := cp_1 (e := e) (d := d) (m := m) hr (by omega) (by omega) (by omega) (by omega) (by omega) (by omega) (by omega) (by omega)
    have ra : Rng (um ma 202 2 1) := a2.um rfl
    obtain ⟨mb, b1, b2⟩ := lpM (m := um ma 202 2 1) (c := 247) (ix := fun i => i) (g := fun i => m 248 i) (n := 2737) (F := fun i m' => Z e d 320 12 [.ref 246, .int (iI i)] [] m') (by decide) (fun p q _ _ _ => by omega) (by
      intro i m' g1 g2 A
      have q : m' 248 i = m 248 i := by rw [A.1 248 (by decide), um_k (by decide), a3 248 (by decide)]
      refine (b_320_12).trans ?_
      simp (disch := first | omega | (simp (disch := first | decide | omega) only [um_k, um_e, um_i, uz_k]; omega) | exact cat_i | exact cat_u | exact cat_r | assumption | exact rfl) only [q, wr_of, ↓reduceIte, ck_T, lt_T, lt_F, le_T, le_F, eq_T, eq_F, and_true, true_and, and_false, false_and, or_true, true_or, or_false, false_or, and_self, or_self, not_true_eq_false, not_false_eq_true, implies_true, forall_const, true_implies, false_implies, ri_k, rn_k, rr_k, wr_bi, bi_e0, bi_e1, bi_T, bi_F, Classical.not_not, itp, itn, ck_t])
    have rb : Rng mb := Fill.rng ra (fun i _ _ => hr _ _) b2
    have b3 : Z e d 320 12 [.ref 246, .int (iI 2737)] [] mb = ri 1 (um mb 246 12 0) := by
      refine (b_320_12).trans ?_
      simp (disch := first | omega | (simp (disch := first | decide | omega) only [um_k, um_e, um_i, uz_k]; omega) | exact cat_i | exact cat_u | exact cat_r | assumption | exact rfl) only [wr_of, ↓reduceIte, ck_T, lt_T, lt_F, le_T, le_F, eq_T, eq_F, and_true, true_and, and_false, false_and, or_true, true_or, or_false, false_or, and_self, or_self, not_true_eq_false, not_false_eq_true, implies_true, forall_const, true_implies, false_implies, ri_k, rn_k, rr_k, wr_bi, bi_e0, bi_e1, bi_T, bi_F, Classical.not_not, itp, itn, ck_t]
    refine ⟨1, um ma 202 2 1, um mb 246 12 0, ?_, ?_, ?_⟩
    · simp (disch := first | omega | (simp (disch := first | decide | omega) only [um_k, um_e, um_i, uz_k]; omega) | exact cat_i | exact cat_u | exact cat_r | assumption | exact rfl) only [b_193_0, b_193_21, hr _ _, a1, wr_of, ↓reduceIte, ck_T, lt_T, lt_F, le_T, le_F, eq_T, eq_F, and_true, true_and, and_false, false_and, or_true, true_or, or_false, false_or, and_self, or_self, not_true_eq_false, not_false_eq_true, implies_true, forall_const, true_implies, false_implies, ri_k, rn_k, rr_k, wr_bi, bi_e0, bi_e1, bi_T, bi_F, Classical.not_not, itp, itn, ck_t]
    · have q : wr (um ma 202 2 1 246 2) = 1 := by rw [um_k (by decide), a3 246 (by decide), hr, hk]
      rw [← b3, ← b1, b_320_0, q]
      exact itn (by decide)
    · have f : ∀ k, (k < 1 ∨ 90 ≤ k) → ¬ k = 202 → ¬ k = 246 → ¬ k = 247 → um mb 246 12 0 k = m k := fun k q1 q2 q3 q4 => by rw [um_r q3, b2.1 k q4, um_r q2, a3 k (by omega)]
      have fw : ∀ k, 1 ≤ k → k < 90 → um mb 246 12 0 k = ma k := fun k q1 q2 => by rw [um_r (by omega), b2.1 k (by omega), um_r (by omega)]
      have f246 : ∀ i, ¬ i = 12 → um mb 246 12 0 246 i = m 246 i := fun i q => by rw [um_i q, b2.1 246 (by decide), um_k (by decide), a3 246 (by decide)]
      have f247 : ∀ i, 0 ≤ i → i < 2737 → um mb 246 12 0 247 i = m 248 i := fun i q1 q2 => by rw [um_k (by decide)]; exact b2.2.1 i q1 q2
      have f202 : ∀ i, ¬ i = 2 → um mb 246 12 0 202 i = m 202 i := fun i q => by rw [um_k (by decide), b2.1 202 (by decide), um_i q, a3 202 (by decide)]
      have hM : Core ma (m 248) := Core_cp (F := fun k => m (k + 89)) (F' := ma) a4.1 a4.2.1 a4.2.2 a5.1 a5.2.1 a5.2.2.1 a5.2.2.2.1 a5.2.2.2.2.1 a5.2.2.2.2.2.1 a5.2.2.2.2.2.2 a6 a7 a8 a9 a10 a11 a12 a13 (fun v g1 g2 j g3 g4 => by
          have := (a14 v g1 g2).1 j g3 g4
          rw [this]
          show _ = m (18 + 6 * v.toNat + 89) j
          rw [show 18 + 6 * v.toNat + 89 = 107 + 6 * v.toNat by omega]) (fun v g1 g2 q q1 q4 j g3 g4 => by
          have := (a14 v g1 g2).2.1 q q1 q4 j g3 g4
          rw [this]
          show _ = m (18 + 6 * v.toNat + q + 89) j
          rw [show 18 + 6 * v.toNat + q + 89 = 107 + 6 * v.toNat + q by omega]) (fun v g1 g2 j g3 g4 => by
          have := (a14 v g1 g2).2.2 j g3 g4
          rw [this]
          show _ = m (18 + 6 * v.toNat + 5 + 89) j
          rw [show 18 + 6 * v.toNat + 5 + 89 = 107 + 6 * v.toNat + 5 by omega]) hC
      refine ⟨rb.um rfl, Core_cg (fun k _ _ => fw k (by omega) (by omega)) f247 hM, Kept_cg (by rw [f 0 (by decide) (by decide) (by decide) (by decide)]) (f246 2 (by decide)) (fun k _ _ => f k (by omega) (by omega) (by omega) (by omega)) (f 248 (by decide) (by decide) (by decide) (by decide)) iK, law_stale (by rw [f202 3 (by decide)]; exact iL.1) (by rw [um_k (by decide), b2.1 202 (by decide), um_s]), ref_stale (by rw [f246 13 (by decide)]; exact iF.1) (by rw [f246 14 (by decide)]; exact iF.2.1) um_s, beside_cg (f 192 (by decide) (by decide) (by decide) (by decide)) iB, Tape_cg (by rw [f 179 (by decide) (by decide) (by decide) (by decide)]) (f246 4 (by decide)) (f 180 (by decide) (by decide) (by decide) (by decide)) (f 249 (by decide) (by decide) (by decide) (by decide)) iA, Rows_cg (by rw [f 230 (by decide) (by decide) (by decide) (by decide)]) (f246 7 (by decide)) (f246 8 (by decide)) (by rw [f 226 (by decide) (by decide) (by decide) (by decide)]) (by rw [f 232 (by decide) (by decide) (by decide) (by decide)]) (f 231 (by decide) (by decide) (by decide) (by decide)) (f 250 (by decide) (by decide) (by decide) (by decide)) (f 233 (by decide) (by decide) (by decide) (by decide)) (f 251 (by decide) (by decide) (by decide) (by decide)) iW, Host_cg (fun k _ _ => f k (by omega) (by omega) (by omega) (by omega)) (by rw [f 234 (by decide) (by decide) (by decide) (by decide)]) (f246 35 (by decide)) (fun k _ _ => f k (by omega) (by omega) (by omega) (by omega)) iX⟩
end KP
