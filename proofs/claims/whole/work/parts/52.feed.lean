/-! The tape; bells; shelves. -/
theorem and255 (v : Int64) : (0 ≤ (v &&& 255).toInt32.toInt ∧ (v &&& 255).toInt32.toInt < 256) ∧ j8 (v &&& 255).toInt32.toInt = j8 v.toInt32.toInt := by
  have h1 : (v &&& 255).toBitVec.toNat = v.toBitVec.toNat % 256 := by
    have e1 : (v &&& 255).toBitVec = v.toBitVec &&& 255#64 := rfl
    rw [e1, BitVec.toNat_and]
    exact Nat.and_two_pow_sub_one_eq_mod v.toBitVec.toNat 8
  have h2 : (v &&& 255).toInt = ((v.toBitVec.toNat % 256 : Nat) : Int) := by
    have e1 : (v &&& 255).toInt = (v &&& 255).toBitVec.toInt := rfl
    rw [e1, BitVec.toInt_eq_toNat_of_lt (by rw [h1]; omega), h1]
  have h3 : (v &&& 255).toInt32.toInt = ((v.toBitVec.toNat % 256 : Nat) : Int) := by
    rw [Int64.toInt_toInt32, h2]
    exact (bm_wr).trans (wr_of (by omega) (by omega))
  have h4 : v.toInt32.toInt = wr v.toInt := by
    rw [Int64.toInt_toInt32]
    exact bm_wr
  have h5 : v.toInt = (v.toBitVec.toNat : Int) ∨ v.toInt = (v.toBitVec.toNat : Int) - 18446744073709551616 := by
    have e1 : v.toInt = v.toBitVec.toInt := rfl
    rw [e1, BitVec.toInt_eq_toNat_cond]
    split
    · exact Or.inl rfl
    · exact Or.inr (by omega)
  rw [h3, h4]
  refine ⟨by omega, ?_⟩
  unfold j8 wr
  omega
theorem j8_j8 {x : Int} : j8 (j8 x) = j8 x := by unfold j8; omega
theorem um_sh {m : zMm} {k k2 : Nat} {i i2 x y z : Int} (h : ¬ k2 = k) : um (um (um m k i x) k2 i2 y) k i z = um (um m k2 i2 y) k i z := by
  funext a b
  unfold um
  by_cases h1 : a = k ∧ b = i
  · rw [if_pos h1, if_pos h1]
  · simp only [if_neg h1]
theorem um_self {m : zMm} {k : Nat} {i x : Int} (h : m k i = x) : um m k i x = m := by
  funext a b
  unfold um
  by_cases h1 : a = k ∧ b = i
  · rw [if_pos h1, ← h, h1.1, h1.2]
  · rw [if_neg h1]
section FD
variable {e : List Int32 × Value} {d : Nat} {m : zMm}
theorem call_feed {w : Int64} {n : Int} (hI : Inv m) (hn : wr n = n) : Both (Z e (d + 1) 148 0 [.ref 0, .long (w), .retAddr 0, .int (iI (n))] []) (Z e (d + 1) 227 0 [.ref 246, .long (w), .retAddr 0, .int (iI (n)), .retAddr 0] []) m := by
  obtain ⟨hr, ⟨iN, iG, iP, iH, iS, iD, iT, iO, iU, iR, iV⟩, iK, iL, iF, iB, iA, iW, iX⟩ := id hI
  have bN := iN
  unfold cNum at bN
  have qa := iA
  unfold Tape at qa
  by_cases h1 : 1 ≤ n ∧ n ≤ 8
  · by_cases h2 : m 246 4 + n > 300
    · refine Both.same hI (-2) ?_ ?_
      · simp (disch := first | omega | (simp (disch := first | decide | omega) only [um_k, um_e, um_i, uz_k]; omega) | exact cat_i | exact cat_u | exact cat_r | assumption | exact rfl) only [b_148_0, hn, hr _ _, wr_of, ↓reduceIte, ck_T, lt_T, lt_F, le_T, le_F, eq_T, eq_F, and_true, true_and, and_false, false_and, or_true, true_or, or_false, false_or, and_self, or_self, not_true_eq_false, not_false_eq_true, implies_true, forall_const, true_implies, false_implies, ri_k, rn_k, rr_k, wr_bi, bi_e0, bi_e1, bi_T, bi_F, Classical.not_not, itp, itn, ck_t]
      · simp (disch := first | omega | (simp (disch := first | decide | omega) only [um_k, um_e, um_i, uz_k]; omega) | exact cat_i | exact cat_u | exact cat_r | assumption | exact rfl) only [b_227_0, hn, hr _ _, wr_of, ↓reduceIte, ck_T, lt_T, lt_F, le_T, le_F, eq_T, eq_F, and_true, true_and, and_false, false_and, or_true, true_or, or_false, false_or, and_self, or_self, not_true_eq_false, not_false_eq_true, implies_true, forall_const, true_implies, false_implies, ri_k, rn_k, rr_k, wr_bi, bi_e0, bi_e1, bi_T, bi_F, Classical.not_not, itp, itn, ck_t]
    · obtain ⟨ma, a1, a2⟩ := lpM (m := m) (c := 180) (ix := fun p => m 246 4 + p) (g := fun p => j8 (j8 (w >>> ((iI (8 * p)).toInt64 &&& 63)).toInt32.toInt)) (n := n) (F := fun i m' => Z e d 63 3 [.ref 179, .long w, .retAddr 0, .int (iI n), .int (iI i)] [] (um m' 179 1 (m 246 4 + i))) (by omega) (fun p q _ _ _ => by omega) (by
        intro i m' g1 g2 A
        refine (b_63_3).trans ?_
        simp (disch := first | omega | (simp (disch := first | decide | omega) only [um_k, um_e, um_i, uz_k]; omega) | exact cat_i | exact cat_u | exact cat_r | assumption | exact rfl) only [hn, um_s, um_k, wr_of, ↓reduceIte, ck_T, lt_T, lt_F, le_T, le_F, eq_T, eq_F, and_true, true_and, and_false, false_and, or_true, true_or, or_false, false_or, and_self, or_self, not_true_eq_false, not_false_eq_true, implies_true, forall_const, true_implies, false_implies, ri_k, rn_k, rr_k, wr_bi, bi_e0, bi_e1, bi_T, bi_F, Classical.not_not, itp, itn, ck_t]
        rw [um_sh (by decide), Int.add_assoc])
      have ea : um ma 179 1 (m 246 4 + n) 246 = m 246 := by
        rw [um_r (by decide), a2.1 246 (by decide)]
      obtain ⟨mb, b1, b2⟩ := lpM (m := um ma 179 1 (m 246 4 + n)) (c := 249) (ix := fun p => m 246 4 + p) (g := fun p => ((w >>> ((iI (8 * p)).toInt64 &&& 63)) &&& 255).toInt32.toInt) (n := n) (F := fun i m' => Z e (d + 1) 227 30 [.ref 246, .long w, .retAddr 0, .int (iI n), .int (iI i)] [] (um m' 246 4 (m 246 4 + i))) (by omega) (fun p q _ _ _ => by omega) (by
        intro i m' g1 g2 A
        refine (b_227_30).trans ?_
        simp (disch := first | omega | (simp (disch := first | decide | omega) only [um_k, um_e, um_i, uz_k]; omega) | exact cat_i | exact cat_u | exact cat_r | assumption | exact rfl) only [hn, um_s, um_k, wr_of, ↓reduceIte, ck_T, lt_T, lt_F, le_T, le_F, eq_T, eq_F, and_true, true_and, and_false, false_and, or_true, true_or, or_false, false_or, and_self, or_self, not_true_eq_false, not_false_eq_true, implies_true, forall_const, true_implies, false_implies, ri_k, rn_k, rr_k, wr_bi, bi_e0, bi_e1, bi_T, bi_F, Classical.not_not, itp, itn, ck_t]
        rw [um_sh (by decide), Int.add_assoc])
      have ra : Rng ma := Fill.rng hr (fun p _ _ => by have := j8_b (v := j8 (w >>> ((iI (8 * p)).toInt64 &&& 63)).toInt32.toInt); exact wr_of (by omega) (by omega)) a2
      have wl : wr (m 246 4 + n) = m 246 4 + n := wr_of (by omega) (by omega)
      have rb : Rng mb := Fill.rng (ra.um wl) (fun p _ _ => by have := (and255 (w >>> ((iI (8 * p)).toInt64 &&& 63))).1; exact wr_of (by omega) (by omega)) b2
      refine ⟨m 246 4 + n, um ma 179 1 (m 246 4 + n), um mb 246 4 (m 246 4 + n), ?_, ?_, ?_⟩
      · have a3 : Z e d 63 0 [.ref 179, .long w, .retAddr 0, .int (iI n), .retAddr 0] [] m = rn (um ma 179 1 (m 246 4 + n)) := by
          rw [b_63_0]
          rw [Int.add_zero, um_self qa.1] at a1
          rw [a1]
          refine (b_63_3).trans ?_
          simp (disch := first | omega | (simp (disch := first | decide | omega) only [um_k, um_e, um_i, uz_k]; omega) | exact cat_i | exact cat_u | exact cat_r | assumption | exact rfl) only [hn, um_s, wr_of, ↓reduceIte, ck_T, lt_T, lt_F, le_T, le_F, eq_T, eq_F, and_true, true_and, and_false, false_and, or_true, true_or, or_false, false_or, and_self, or_self, not_true_eq_false, not_false_eq_true, implies_true, forall_const, true_implies, false_implies, ri_k, rn_k, rr_k, wr_bi, bi_e0, bi_e1, bi_T, bi_F, Classical.not_not, itp, itn, ck_t]
        simp (disch := first | omega | (simp (disch := first | decide | omega) only [um_k, um_e, um_i, uz_k]; omega) | exact cat_i | exact cat_u | exact cat_r | assumption | exact rfl) only [b_148_0, b_148_40, hn, hr _ _, a3, um_s, wr_of, ↓reduceIte, ck_T, lt_T, lt_F, le_T, le_F, eq_T, eq_F, and_true, true_and, and_false, false_and, or_true, true_or, or_false, false_or, and_self, or_self, not_true_eq_false, not_false_eq_true, implies_true, forall_const, true_implies, false_implies, ri_k, rn_k, rr_k, wr_bi, bi_e0, bi_e1, bi_T, bi_F, Classical.not_not, itp, itn, ck_t]
      · have e0 : um (um ma 179 1 (m 246 4 + n)) 246 4 (m 246 4 + 0) = um ma 179 1 (m 246 4 + n) := um_self (by rw [ea, Int.add_zero])
        rw [e0] at b1
        have b3 : Z e (d + 1) 227 30 [.ref 246, .long w, .retAddr 0, .int (iI n), .int (iI n)] [] (um mb 246 4 (m 246 4 + n)) = ri (m 246 4 + n) (um mb 246 4 (m 246 4 + n)) := by
          refine (b_227_30).trans ?_
          simp (disch := first | omega | (simp (disch := first | decide | omega) only [um_k, um_e, um_i, uz_k]; omega) | exact cat_i | exact cat_u | exact cat_r | assumption | exact rfl) only [hn, um_s, wr_of, ↓reduceIte, ck_T, lt_T, lt_F, le_T, le_F, eq_T, eq_F, and_true, true_and, and_false, false_and, or_true, true_or, or_false, false_or, and_self, or_self, not_true_eq_false, not_false_eq_true, implies_true, forall_const, true_implies, false_implies, ri_k, rn_k, rr_k, wr_bi, bi_e0, bi_e1, bi_T, bi_F, Classical.not_not, itp, itn, ck_t]
        have e1 : wr (um ma 179 1 (m 246 4 + n) 246 4 + n) = m 246 4 + n := by rw [ea]; exact wl
        rw [← b3, ← b1]
        simp (disch := first | omega | (simp (disch := first | decide | omega) only [um_k, um_e, um_i, uz_k]; omega) | exact cat_i | exact cat_u | exact cat_r | assumption | exact rfl) only [b_227_0, hn, e1, wr_of, ↓reduceIte, ck_T, lt_T, lt_F, le_T, le_F, eq_T, eq_F, and_true, true_and, and_false, false_and, or_true, true_or, or_false, false_or, and_self, or_self, not_true_eq_false, not_false_eq_true, implies_true, forall_const, true_implies, false_implies, ri_k, rn_k, rr_k, wr_bi, bi_e0, bi_e1, bi_T, bi_F, Classical.not_not, itp, itn, ck_t]
      · have fb : ∀ k, ¬ k = 249 → ¬ k = 180 → ¬ k = 179 → mb k = m k := fun k q1 q2 q3 => by rw [b2.1 k q1, um_r q3, a2.1 k q2]
        have f2 : ∀ k, ¬ k = 249 → ¬ k = 180 → ¬ k = 179 → ¬ k = 246 → um mb 246 4 (m 246 4 + n) k = m k := fun k q1 q2 q3 q4 => by rw [um_r q4]; exact fb k q1 q2 q3
        have f246 : ∀ i, ¬ i = 4 → um mb 246 4 (m 246 4 + n) 246 i = m 246 i := fun i q => by rw [um_i q, fb 246 (by decide) (by decide) (by decide)]
        have hn7 : um mb 246 4 (m 246 4 + n) 247 = m 247 := f2 247 (by decide) (by decide) (by decide) (by decide)
        refine ⟨rb.um wl, Core_cg (fun k _ _ => f2 k (by omega) (by omega) (by omega) (by omega)) (fun i _ _ => by rw [hn7]) ⟨iN, iG, iP, iH, iS, iD, iT, iO, iU, iR, iV⟩, Kept_cg (by rw [f2 0 (by decide) (by decide) (by decide) (by decide)]) (f246 2 (by decide)) (fun k _ _ => f2 k (by omega) (by omega) (by omega) (by omega)) (f2 248 (by decide) (by decide) (by decide) (by decide)) iK, LawOK_cg (f2 202 (by decide) (by decide) (by decide) (by decide)) (f2 204 (by decide) (by decide) (by decide) (by decide)) (f2 205 (by decide) (by decide) (by decide) (by decide)) (fun k _ _ => f2 k (by omega) (by omega) (by omega) (by omega)) (by omega) (by rw [hn7]) iL, RefOK_cg (f246 12 (by decide)) (f246 13 (by decide)) (f246 14 (by decide)) (f2 254 (by decide) (by decide) (by decide) (by decide)) (by rw [hn7]) iF, beside_cg (f2 192 (by decide) (by decide) (by decide) (by decide)) iB, ?_, Rows_cg (by rw [f2 230 (by decide) (by decide) (by decide) (by decide)]) (f246 7 (by decide)) (f246 8 (by decide)) (by rw [f2 226 (by decide) (by decide) (by decide) (by decide)]) (by rw [f2 232 (by decide) (by decide) (by decide) (by decide)]) (f2 231 (by decide) (by decide) (by decide) (by decide)) (f2 250 (by decide) (by decide) (by decide) (by decide)) (f2 233 (by decide) (by decide) (by decide) (by decide)) (f2 251 (by decide) (by decide) (by decide) (by decide)) iW, Host_cg (fun k _ _ => f2 k (by omega) (by omega) (by omega) (by omega)) (by rw [f2 234 (by decide) (by decide) (by decide) (by decide)]) (f246 35 (by decide)) (fun k _ _ => f2 k (by omega) (by omega) (by omega) (by omega)) iX⟩
        unfold Tape
        rw [um_s, um_r (by decide), um_r (by decide), um_r (by decide), b2.1 179 (by decide), um_s, b2.1 180 (by decide), um_r (by decide)]
        refine ⟨rfl, by omega, by omega, fun i g1 g2 => ?_⟩
        by_cases hi : i < m 246 4
        · rw [b2.2.2 i (fun p _ _ => by dsimp only; omega), a2.2.2 i (fun p _ _ => by dsimp only; omega), um_r (by decide), a2.1 249 (by decide)]
          exact qa.2.2.2 i g1 hi
        · have a4 := a2.2.1 (i - m 246 4) (by omega) (by omega)
          have b4 := b2.2.1 (i - m 246 4) (by omega) (by omega)
          dsimp only at a4 b4
          rw [show m 246 4 + (i - m 246 4) = i by omega] at a4 b4
          rw [a4, b4, j8_j8]
          have := and255 (w >>> ((iI (8 * (i - m 246 4))).toInt64 &&& 63))
          exact ⟨this.2.symm, this.1⟩
  · refine Both.same hI (-1) ?_ ?_
    · simp (disch := first | omega | (simp (disch := first | decide | omega) only [um_k, um_e, um_i, uz_k]; omega) | exact cat_i | exact cat_u | exact cat_r | assumption | exact rfl) only [b_148_0, hn, wr_of, ↓reduceIte, ck_T, lt_T, lt_F, le_T, le_F, eq_T, eq_F, and_true, true_and, and_false, false_and, or_true, true_or, or_false, false_or, and_self, or_self, not_true_eq_false, not_false_eq_true, implies_true, forall_const, true_implies, false_implies, ri_k, rn_k, rr_k, wr_bi, bi_e0, bi_e1, bi_T, bi_F, Classical.not_not, itp, itn, ck_t]
    · simp (disch := first | omega | (simp (disch := first | decide | omega) only [um_k, um_e, um_i, uz_k]; omega) | exact cat_i | exact cat_u | exact cat_r | assumption | exact rfl) only [b_227_0, hn, wr_of, ↓reduceIte, ck_T, lt_T, lt_F, le_T, le_F, eq_T, eq_F, and_true, true_and, and_false, false_and, or_true, true_or, or_false, false_or, and_self, or_self, not_true_eq_false, not_false_eq_true, implies_true, forall_const, true_implies, false_implies, ri_k, rn_k, rr_k, wr_bi, bi_e0, bi_e1, bi_T, bi_F, Classical.not_not, itp, itn, ck_t]
theorem W_ring {c l : Int} (hr : Rng m) (iN : cNum m (m 247)) (iP : cPpl m (m 247)) (h : m 247 7 < 8) (h0 : 0 ≤ c) (h1 : c < 100) (hl : wr l = l) : ∃ m', Z e (d + 2) 137 0 [.ref 1, .int (iI (c)), .int (iI (l)), .retAddr 0, .retAddr 0] [] m = ri (m 247 7) m' ∧ Fill (um m 1 1 (m 247 7 + 1)) 5 (fun p => p * 18 + (10 + m 247 7)) (fun p => cif (jfar (m 247 (110 + 9 * p + 0)) c ≤ l) (m 247 0) (m 5 (p * 18 + (10 + m 247 7)))) (m 247 1) m' := by
  have bN := iN
  unfold cNum at bN
  obtain ⟨m', g1, g2⟩ := lpM (m := um m 1 1 (m 247 7 + 1)) (c := 5) (ix := fun p => p * 18 + (10 + m 247 7)) (g := fun p => cif (jfar (m 247 (110 + 9 * p + 0)) c ≤ l) (m 247 0) (m 5 (p * 18 + (10 + m 247 7)))) (n := m 247 1) (F := fun i m' => Z e (d + 2) 137 18 [.ref 1, .int (iI c), .int (iI l), .int (iI (m 247 7)), .int (iI i)] [] m') (by omega) (fun p q _ _ _ => by omega) (by
    intro i m' g1 g2 A
    have a4 : m' 4 3 = m 247 1 := by rw [A.1 4 (by decide), um_k (by decide)]; exact bN.2.1.1
    have a1 : m' 1 0 = m 247 0 := by rw [A.1 1 (by decide), um_i (by decide)]; exact bN.1.1
    have a5 : m' 5 (i * 18 + 0) = m 247 (110 + 9 * i + 0) := by
      rw [A.2.2 _ (fun p _ _ => by dsimp only; omega), um_k (by decide)]
      exact (iP i g1 g2).1 0 (by decide) (by decide)
    have ah : m' 5 (i * 18 + (10 + m 247 7)) = m 5 (i * 18 + (10 + m 247 7)) := by
      rw [A.2.2 _ (fun p _ _ => by dsimp only; omega), um_k (by decide)]
    have q := (iP i g1 g2).2.1
    have w1 : wr (m 247 1) = m 247 1 := hr _ _
    refine (b_137_18).trans ?_
    by_cases hf : jfar (m 247 (110 + 9 * i + 0)) c ≤ l
    · rw [cif_t hf]
      simp (disch := first | omega | (simp (disch := first | decide | omega) only [um_k, um_e, um_i, uz_k]; omega) | exact cat_i | exact cat_u | exact cat_r | assumption | exact rfl) only [b_137_40, b_137_65, get_4, set_4, a4, a1, a5, wr_jfar q.1 q.2 h0 h1, hl, wr_of, ↓reduceIte, ck_T, lt_T, lt_F, le_T, le_F, eq_T, eq_F, and_true, true_and, and_false, false_and, or_true, true_or, or_false, false_or, and_self, or_self, not_true_eq_false, not_false_eq_true, implies_true, forall_const, true_implies, false_implies, ri_k, rn_k, rr_k, wr_bi, bi_e0, bi_e1, bi_T, bi_F, Classical.not_not, itp, itn, ck_t]
    · rw [cif_f hf, um_self ah]
      simp (disch := first | omega | (simp (disch := first | decide | omega) only [um_k, um_e, um_i, uz_k]; omega) | exact cat_i | exact cat_u | exact cat_r | assumption | exact rfl) only [b_137_40, b_137_65, get_4, a4, a1, a5, wr_jfar q.1 q.2 h0 h1, hl, wr_of, ↓reduceIte, ck_T, lt_T, lt_F, le_T, le_F, eq_T, eq_F, and_true, true_and, and_false, false_and, or_true, true_or, or_false, false_or, and_self, or_self, not_true_eq_false, not_false_eq_true, implies_true, forall_const, true_implies, false_implies, ri_k, rn_k, rr_k, wr_bi, bi_e0, bi_e1, bi_T, bi_F, Classical.not_not, itp, itn, ck_t])
  refine ⟨m', ?_, g2⟩
  rw [b_137_0, bN.2.2.2.2.2.2.2.1.1]
  refine g1.trans ((b_137_18).trans ?_)
  have a4 : m' 4 3 = m 247 1 := by rw [g2.1 4 (by decide), um_k (by decide)]; exact bN.2.1.1
  simp (disch := first | omega | (simp (disch := first | decide | omega) only [um_k, um_e, um_i, uz_k]; omega) | exact cat_i | exact cat_u | exact cat_r | assumption | exact rfl) only [a4, hr _ _, wr_of, ↓reduceIte, ck_T, lt_T, lt_F, le_T, le_F, eq_T, eq_F, and_true, true_and, and_false, false_and, or_true, true_or, or_false, false_or, and_self, or_self, not_true_eq_false, not_false_eq_true, implies_true, forall_const, true_implies, false_implies, ri_k, rn_k, rr_k, wr_bi, bi_e0, bi_e1, bi_T, bi_F, Classical.not_not, itp, itn, ck_t]
theorem M_bell {c l : Int} (hr : Rng m) (b1 : 0 ≤ m 247 1 ∧ m 247 1 ≤ 16) (b7 : 0 ≤ m 247 7 ∧ m 247 7 < 8) (bp : ∀ p, 0 ≤ p → p < m 247 1 → 0 ≤ m 247 (110 + 9 * p + 0) ∧ m 247 (110 + 9 * p + 0) < 100) (h0 : 0 ≤ c) (h1 : c < 100) (hl : wr l = l) (h2 : 0 ≤ l) (h3 : l ≤ 18) : ∃ m', Z e (d + 2) 293 0 [.ref 246, .int (iI (c)), .int (iI (l)), .retAddr 0, .retAddr 0] [] m = ri (m 247 7) (um m' 247 7 (m 247 7 + 1)) ∧ Fill (um (um (um m 247 (1082 + 3 * m 247 7) c) 247 (1082 + 3 * m 247 7 + 1) (m 247 0)) 247 (1082 + 3 * m 247 7 + 2) l) 247 (fun p => 1106 + 8 * p + m 247 7) (fun p => cif (p < m 247 1 ∧ jfar (m 247 (110 + 9 * p + 0)) c ≤ l) (m 247 0) (-3)) 16 m' := by
  have wc : wr c = c := wr_of (by omega) (by omega)
  obtain ⟨m', g1, g2⟩ := lpM (m := (um (um (um m 247 (1082 + 3 * m 247 7) c) 247 (1082 + 3 * m 247 7 + 1) (m 247 0)) 247 (1082 + 3 * m 247 7 + 2) l)) (c := 247) (ix := fun p => 1106 + 8 * p + m 247 7) (g := fun p => cif (p < m 247 1 ∧ jfar (m 247 (110 + 9 * p + 0)) c ≤ l) (m 247 0) (-3)) (n := 16) (F := fun i m' => Z e (d + 2) 293 87 [.ref 246, .int (iI c), .int (iI l), .int (iI (m 247 7)), .int (iI i)] [] m') (by decide) (fun p q _ _ _ => by omega) (by
    intro i m' g1 g2 A
    have a1 : m' 247 1 = m 247 1 := by rw [A.2.2 1 (fun p _ _ => by dsimp only; omega)]; simp (disch := first | omega | (simp (disch := first | decide | omega) only [um_k, um_e, um_i, uz_k]; omega) | exact cat_i | exact cat_u | exact cat_r | assumption | exact rfl) only [um_r, um_k, um_i, um_e, uz_r, uz_k, uz_i, uz_in]
    have a0 : m' 247 0 = m 247 0 := by rw [A.2.2 0 (fun p _ _ => by dsimp only; omega)]; simp (disch := first | omega | (simp (disch := first | decide | omega) only [um_k, um_e, um_i, uz_k]; omega) | exact cat_i | exact cat_u | exact cat_r | assumption | exact rfl) only [um_r, um_k, um_i, um_e, uz_r, uz_k, uz_i, uz_in]
    have ap : m' 247 (110 + 9 * i + 0) = m 247 (110 + 9 * i + 0) := by rw [A.2.2 _ (fun p _ _ => by dsimp only; omega)]; simp (disch := first | omega | (simp (disch := first | decide | omega) only [um_k, um_e, um_i, uz_k]; omega) | exact cat_i | exact cat_u | exact cat_r | assumption | exact rfl) only [um_r, um_k, um_i, um_e, uz_r, uz_k, uz_i, uz_in]
    refine (b_293_87).trans ?_
    simp (disch := first | omega | (simp (disch := first | decide | omega) only [um_k, um_e, um_i, uz_k]; omega) | exact cat_i | exact cat_u | exact cat_r | assumption | exact rfl) only [a1, a0, ap, hr _ _, hl, wr_of, ↓reduceIte, ck_T, lt_T, lt_F, le_T, le_F, eq_T, eq_F, and_true, true_and, and_false, false_and, or_true, true_or, or_false, false_or, and_self, or_self, not_true_eq_false, not_false_eq_true, implies_true, forall_const, true_implies, false_implies, ri_k, rn_k, rr_k, wr_bi, bi_T, bi_F, Classical.not_not, itp, itn, ck_t]
    by_cases c1 : i < m 247 1
    · have q := bp i g1 c1
      by_cases c2 : jfar (m 247 (110 + 9 * i + 0)) c ≤ l
      · rw [cif_t ⟨c1, c2⟩]
        simp (disch := first | omega | (simp (disch := first | decide | omega) only [um_k, um_e, um_i, uz_k]; omega) | exact cat_i | exact cat_u | exact cat_r | assumption | exact rfl) only [wr_jfar q.1 q.2 h0 h1, wr_of, ↓reduceIte, ck_T, lt_T, lt_F, le_T, le_F, eq_T, eq_F, and_true, true_and, and_false, false_and, or_true, true_or, or_false, false_or, and_self, or_self, not_true_eq_false, not_false_eq_true, implies_true, forall_const, true_implies, false_implies, ri_k, rn_k, rr_k, wr_bi, bi_T, bi_F, Classical.not_not, itp, itn, ck_t]
      · rw [cif_f (fun q => c2 q.2)]
        simp (disch := first | omega | (simp (disch := first | decide | omega) only [um_k, um_e, um_i, uz_k]; omega) | exact cat_i | exact cat_u | exact cat_r | assumption | exact rfl) only [wr_jfar q.1 q.2 h0 h1, wr_of, ↓reduceIte, ck_T, lt_T, lt_F, le_T, le_F, eq_T, eq_F, and_true, true_and, and_false, false_and, or_true, true_or, or_false, false_or, and_self, or_self, not_true_eq_false, not_false_eq_true, implies_true, forall_const, true_implies, false_implies, ri_k, rn_k, rr_k, wr_bi, bi_T, bi_F, Classical.not_not, itp, itn, ck_t]
    · rw [cif_f (fun q => c1 q.1)]
      simp (disch := first | omega | (simp (disch := first | decide | omega) only [um_k, um_e, um_i, uz_k]; omega) | exact cat_i | exact cat_u | exact cat_r | assumption | exact rfl) only [wr_of, ↓reduceIte, ck_T, lt_T, lt_F, le_T, le_F, eq_T, eq_F, and_true, true_and, and_false, false_and, or_true, true_or, or_false, false_or, and_self, or_self, not_true_eq_false, not_false_eq_true, implies_true, forall_const, true_implies, false_implies, ri_k, rn_k, rr_k, wr_bi, bi_T, bi_F, Classical.not_not, itp, itn, ck_t])
  refine ⟨m', ?_, g2⟩
  have a7 : m' 247 7 = m 247 7 := by rw [g2.2.2 7 (fun p _ _ => by dsimp only; omega)]; simp (disch := first | omega | (simp (disch := first | decide | omega) only [um_k, um_e, um_i, uz_k]; omega) | exact cat_i | exact cat_u | exact cat_r | assumption | exact rfl) only [um_r, um_k, um_i, um_e, uz_r, uz_k, uz_i, uz_in]
  have h5 : Z e (d + 2) 293 87 [.ref 246, .int (iI c), .int (iI l), .int (iI (m 247 7)), .int (iI 16)] [] m' = ri (m 247 7) (um m' 247 7 (m 247 7 + 1)) := by
    refine (b_293_87).trans ?_
    simp (disch := first | omega | (simp (disch := first | decide | omega) only [um_k, um_e, um_i, uz_k]; omega) | exact cat_i | exact cat_u | exact cat_r | assumption | exact rfl) only [a7, wr_of, ↓reduceIte, ck_T, lt_T, lt_F, le_T, le_F, eq_T, eq_F, and_true, true_and, and_false, false_and, or_true, true_or, or_false, false_or, and_self, or_self, not_true_eq_false, not_false_eq_true, implies_true, forall_const, true_implies, false_implies, ri_k, rn_k, rr_k, wr_bi, bi_e0, bi_e1, bi_T, bi_F, Classical.not_not, itp, itn, ck_t]
  rw [← h5, ← g1]
  simp (disch := first | omega | (simp (disch := first | decide | omega) only [um_k, um_e, um_i, uz_k]; omega) | exact cat_i | exact cat_u | exact cat_r | assumption | exact rfl) only [b_293_0, wc, hl, hr _ _, um_i, wr_of, ↓reduceIte, ck_T, lt_T, lt_F, le_T, le_F, eq_T, eq_F, and_true, true_and, and_false, false_and, or_true, true_or, or_false, false_or, and_self, or_self, not_true_eq_false, not_false_eq_true, implies_true, forall_const, true_implies, false_implies, ri_k, rn_k, rr_k, wr_bi, bi_e0, bi_e1, bi_T, bi_F, Classical.not_not, itp, itn, ck_t]
theorem call_bell {c l : Int} (hI : Inv m) (hc : wr c = c) (hl : wr l = l) : Both (Z e (d + 3) 177 0 [.ref 0, .int (iI (c)), .int (iI (l))] []) (Z e (d + 2) 293 0 [.ref 246, .int (iI (c)), .int (iI (l)), .retAddr 0, .retAddr 0] []) m := by
  obtain ⟨hr, ⟨iN, iG, iP, iH, iS, iD, iT, iO, iU, iR, iV⟩, iK, iL, iF, iB, iA, iW, iX⟩ := id hI
  have bN := iN
  unfold cNum at bN
  by_cases h1 : 0 ≤ c ∧ c < 100 ∧ 0 ≤ l ∧ l ≤ 18
  · by_cases h3 : m 247 7 = 8
    · refine Both.same hI (-2) ?_ ?_
      · simp (disch := first | omega | (simp (disch := first | decide | omega) only [um_k, um_e, um_i, uz_k]; omega) | exact cat_i | exact cat_u | exact cat_r | assumption | exact rfl) only [b_177_0, hc, hl, hr _ _, wr_of, ↓reduceIte, ck_T, lt_T, lt_F, le_T, le_F, eq_T, eq_F, and_true, true_and, and_false, false_and, or_true, true_or, or_false, false_or, and_self, or_self, not_true_eq_false, not_false_eq_true, implies_true, forall_const, true_implies, false_implies, ri_k, rn_k, rr_k, wr_bi, bi_e0, bi_e1, bi_T, bi_F, Classical.not_not, itp, itn, ck_t]
      · simp (disch := first | omega | (simp (disch := first | decide | omega) only [um_k, um_e, um_i, uz_k]; omega) | exact cat_i | exact cat_u | exact cat_r | assumption | exact rfl) only [b_293_0, hc, hl, hr _ _, wr_of, ↓reduceIte, ck_T, lt_T, lt_F, le_T, le_F, eq_T, eq_F, and_true, true_and, and_false, false_and, or_true, true_or, or_false, false_or, and_self, or_self, not_true_eq_false, not_false_eq_true, implies_true, forall_const, true_implies, false_implies, ri_k, rn_k, rr_k, wr_bi, bi_e0, bi_e1, bi_T, bi_F, Classical.not_not, itp, itn, ck_t]
    · obtain ⟨ma, a1, a2⟩ := W_ring (e := e) (d := d) hr iN iP (by omega) h1.1 h1.2.1 hl
      have wn : wr (m 247 7 + 1) = m 247 7 + 1 := wr_of (by omega) (by omega)
      have wg : ∀ p : Int, 0 ≤ p → p < m 247 1 → wr (cif (jfar (m 247 (110 + 9 * p + 0)) c ≤ l) (m 247 0) (m 5 (p * 18 + (10 + m 247 7)))) = cif (jfar (m 247 (110 + 9 * p + 0)) c ≤ l) (m 247 0) (m 5 (p * 18 + (10 + m 247 7))) := fun p _ _ => by
        by_cases q : jfar (m 247 (110 + 9 * p + 0)) c ≤ l
        · rw [cif_t q]; exact hr _ _
        · rw [cif_f q]; exact hr _ _
      have ra : Rng ma := Fill.rng (hr.um wn) wg a2
      have f7 : ma 247 = m 247 := by rw [a2.1 247 (by decide), um_r (by decide)]
      obtain ⟨mb, b1, b2⟩ := M_bell (e := e) (d := d) (m := ma) (c := c) (l := l) ra (by rw [f7]; omega) (by rw [f7]; omega) (by rw [f7]; exact fun p q1 q2 => (iP p q1 q2).2.1) h1.1 h1.2.1 hl h1.2.2.1 h1.2.2.2
      rw [f7] at b1 b2
      have wg2 : ∀ p : Int, 0 ≤ p → p < 16 → wr (cif (p < m 247 1 ∧ jfar (m 247 (110 + 9 * p + 0)) c ≤ l) (m 247 0) (-3)) = cif (p < m 247 1 ∧ jfar (m 247 (110 + 9 * p + 0)) c ≤ l) (m 247 0) (-3) := fun p _ _ => by
        by_cases q : p < m 247 1 ∧ jfar (m 247 (110 + 9 * p + 0)) c ≤ l
        · rw [cif_t q]; exact hr _ _
        · rw [cif_f q]; rfl
      have rb : Rng mb := Fill.rng (((ra.um hc).um (hr _ _)).um hl) wg2 b2
      refine ⟨m 247 7, ma, um mb 247 7 (m 247 7 + 1), ?_, b1, ?_⟩
      · simp (disch := first | omega | (simp (disch := first | decide | omega) only [um_k, um_e, um_i, uz_k]; omega) | exact cat_i | exact cat_u | exact cat_r | assumption | exact rfl) only [b_177_0, b_177_43, hc, hl, hr _ _, a1, wr_of, ↓reduceIte, ck_T, lt_T, lt_F, le_T, le_F, eq_T, eq_F, and_true, true_and, and_false, false_and, or_true, true_or, or_false, false_or, and_self, or_self, not_true_eq_false, not_false_eq_true, implies_true, forall_const, true_implies, false_implies, ri_k, rn_k, rr_k, wr_bi, bi_e0, bi_e1, bi_T, bi_F, Classical.not_not, itp, itn, ck_t]
      · have e7 : um mb 247 7 (m 247 7 + 1) 247 7 = m 247 7 + 1 := um_s
        have eo : ∀ i, ¬ i = 7 → um mb 247 7 (m 247 7 + 1) 247 i = mb 247 i := fun i q => um_i q
        have ek : ∀ k, ¬ k = 247 → um mb 247 7 (m 247 7 + 1) k = ma k := fun k q => by rw [um_r q, b2.1 k q]; simp (disch := first | omega | (simp (disch := first | decide | omega) only [um_k, um_e, um_i, uz_k]; omega) | exact cat_i | exact cat_u | exact cat_r | assumption | exact rfl) only [um_r, um_k, um_i, um_e, uz_r, uz_k, uz_i, uz_in]
        have ka : ∀ k, ¬ k = 1 → ¬ k = 5 → ma k = m k := fun k q1 q2 => by rw [a2.1 k q2, um_r q1]
        have n2 : ∀ i, ¬ (1082 ≤ i ∧ i < 1234) → mb 247 i = m 247 i := fun i q => by
          rw [b2.2.2 i (fun p _ _ => by dsimp only; omega)]
          simp (disch := first | omega | (simp (disch := first | decide | omega) only [um_k, um_e, um_i, uz_k]; omega) | exact cat_i | exact cat_u | exact cat_r | assumption | exact rfl) only [um_r, um_k, um_i, um_e, uz_r, uz_k, uz_i, uz_in]
          rw [f7]
        have nh : ∀ i, 1106 ≤ i → i < 1234 → (∀ p, 0 ≤ p → p < 16 → ¬ i = 1106 + 8 * p + m 247 7) → mb 247 i = m 247 i := fun i q1 q2 q => by
          rw [b2.2.2 i (fun p g1 g2 => q p g1 g2)]
          simp (disch := first | omega | (simp (disch := first | decide | omega) only [um_k, um_e, um_i, uz_k]; omega) | exact cat_i | exact cat_u | exact cat_r | assumption | exact rfl) only [um_r, um_k, um_i, um_e, uz_r, uz_k, uz_i, uz_in]
          rw [f7]
        have k10 : ma 1 0 = m 1 0 := by rw [a2.1 1 (by decide), um_i (by decide)]
        have k11 : ma 1 1 = m 247 7 + 1 := by rw [a2.1 1 (by decide), um_s]
        have k12 : ma 1 2 = m 1 2 := by rw [a2.1 1 (by decide), um_i (by decide)]
        have c5 : ∀ i, (∀ p, 0 ≤ p → p < m 247 1 → ¬ i = p * 18 + (10 + m 247 7)) → ma 5 i = m 5 i := fun i q => by
          rw [a2.2.2 i q, um_k (by decide)]
        refine Inv_A hI (rb.um wn) (fun k q1 q2 q3 q4 q5 => by rw [ek k q4]; exact ka k q1 q3) (fun i q => by rw [eo i (by omega)]; exact n2 i (by omega)) (by rw [eo 0 (by decide), n2 0 (by omega)]; omega) (by rw [eo 1 (by decide), n2 1 (by omega)]; omega) ?_ ?_ ?_
        · unfold cNum
          rw [e7, ek 1 (by decide), ek 4 (by decide), ek 6 (by decide), ek 8 (by decide), ek 10 (by decide), ek 12 (by decide), ek 14 (by decide), ek 16 (by decide), k10, k11, k12, ka 4 (by decide) (by decide), ka 6 (by decide) (by decide), ka 8 (by decide) (by decide), ka 10 (by decide) (by decide), ka 12 (by decide) (by decide), ka 14 (by decide) (by decide), ka 16 (by decide) (by decide), eo 0 (by decide), n2 0 (by omega), eo 1 (by decide), n2 1 (by omega), eo 2 (by decide), n2 2 (by omega), eo 3 (by decide), n2 3 (by omega), eo 4 (by decide), n2 4 (by omega), eo 5 (by decide), n2 5 (by omega), eo 6 (by decide), n2 6 (by omega), eo 8 (by decide), n2 8 (by omega)]
          omega
        · intro x g1 g2
          rw [eo 1 (by decide), n2 1 (by omega)] at g2
          exact pRow_cg (fun f _ _ => by rw [ek 5 (by decide)]; exact c5 _ (fun p _ _ => by omega)) (fun f _ _ => by rw [eo _ (by omega)]; exact n2 _ (by omega)) (iP x g1 g2)
        · intro x g1 g2
          rw [eo 1 (by decide), n2 1 (by omega)] at g2
          intro b g3 g4
          have q := iH x g1 g2 b g3 g4
          rw [ek 5 (by decide), eo _ (by omega), e7, eo 0 (by decide), n2 0 (by omega)]
          by_cases hb : b = m 247 7
          · subst hb
            have u1 := a2.2.1 x g1 g2
            have u2 := b2.2.1 x g1 (by omega)
            dsimp only at u1 u2
            rw [u1, u2]
            by_cases hf : jfar (m 247 (110 + 9 * x + 0)) c ≤ l
            · rw [cif_t hf, cif_t ⟨g2, hf⟩]
              exact ⟨rfl, Or.inr ⟨by omega, by omega⟩, fun q => by omega⟩
            · rw [cif_f hf, cif_f (fun q => hf q.2), q.1, q.2.2 (by omega)]
              exact ⟨rfl, Or.inl rfl, fun _ => rfl⟩
          · rw [c5 _ (fun p _ _ => by omega), nh _ (by omega) (by omega) (fun p _ _ => by omega)]
            exact ⟨q.1, q.2.1, fun g => q.2.2 (by omega)⟩
  · refine Both.same hI (-1) ?_ ?_
    · simp (disch := first | omega | (simp (disch := first | decide | omega) only [um_k, um_e, um_i, uz_k]; omega) | exact cat_i | exact cat_u | exact cat_r | assumption | exact rfl) only [b_177_0, hc, hl, wr_of, ↓reduceIte, ck_T, lt_T, lt_F, le_T, le_F, eq_T, eq_F, and_true, true_and, and_false, false_and, or_true, true_or, or_false, false_or, and_self, or_self, not_true_eq_false, not_false_eq_true, implies_true, forall_const, true_implies, false_implies, ri_k, rn_k, rr_k, wr_bi, bi_e0, bi_e1, bi_T, bi_F, Classical.not_not, itp, itn, ck_t]
    · simp (disch := first | omega | (simp (disch := first | decide | omega) only [um_k, um_e, um_i, uz_k]; omega) | exact cat_i | exact cat_u | exact cat_r | assumption | exact rfl) only [b_293_0, hc, hl, wr_of, ↓reduceIte, ck_T, lt_T, lt_F, le_T, le_F, eq_T, eq_F, and_true, true_and, and_false, false_and, or_true, true_or, or_false, false_or, and_self, or_self, not_true_eq_false, not_false_eq_true, implies_true, forall_const, true_implies, false_implies, ri_k, rn_k, rr_k, wr_bi, bi_e0, bi_e1, bi_T, bi_F, Classical.not_not, itp, itn, ck_t]
end FD
