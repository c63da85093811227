/-! seek, swear. -/
section SK
variable {e : List Int32 × Value} {d : Nat} {m m0 : zMm}
/-- one is safe now -/
def sfN (N : Int → Int) (o mi p : Int) : Prop := whyS N o p (deg N mi (strt N o (N 0)) (N (110 + 9 * p + 0))) (N 0) (N 0) = -3
theorem L_safeNow {p : Int} (hI : Inv m) (p0 : 0 ≤ p) (p1 : p < m 247 1) : ∃ m1, Z e (d + 6) 31 0 [.ref 202, .int (iI p)] [] m = ri (bi (sfN (m 247) (-1) (mile (m 247) (-1) (m 247 0)) p)) m1 ∧ AS (m 247) (m 247 0) m m1 := by
  obtain ⟨hr, ⟨iN, iG, iP, iH, iS, iD, iT, iO, iU, iR, iV⟩, iK, iL, iF, iB, iA, iW, iX⟩ := id hI
  have bN := iN
  unfold cNum at bN
  have hp : wr p = p := wr_of (by omega) (by omega)
  have q := iP p p0 p1
  unfold pRow at q
  obtain ⟨m1, a1, a2⟩ := L_reason (e := e) (d := d) (p := p) (c := m 247 (110 + 9 * p + 0)) (h := m 247 0) (k := m 247 0) hI hp (hr _ _) q.2.1.1 q.2.1.2 bN.1.2.1 bN.1.2.2
  have q0 := q.1 0 (by decide) (by decide)
  have t0 := get_4 (e := e) (d := d + 5) (m := m) (i := p) (j := 0) (by omega) (by omega) p0 (by omega) (by decide) (by decide)
  rw [q0] at t0
  have ww := wr_whyS (N := m 247) (o := -1) (p := p) (g := deg (m 247) (mile (m 247) (-1) (m 247 0)) (strt (m 247) (-1) (m 247 0)) (m 247 (110 + 9 * p + 0))) (h := m 247 0) (k := m 247 0) (by omega)
  refine ⟨m1, ?_, a2⟩
  rw [b_31_0, t0, ri_k, b_31_14, bN.1.1, a1, ri_k, b_31_31, ww, bi_if]
  rfl
theorem M_safeNow {p mi : Int} {F : zMm} (hC : Core F (m0 247)) (hr0 : Rng m0) (R : RM m0 m) (p0 : 0 ≤ p) (p1 : p < m0 247 1) (hm : mil m0 (m0 247 0) mi) : ∃ m', Z e (d + 13) 259 0 [.ref 246, .int (iI p)] [] m = ri (bi (sfN (m0 247) (m0 246 13) mi p)) m' ∧ RM m0 m' := by
  have hC0 := hC
  obtain ⟨iN, iG, iP, iH, iS, iD, iT, iO, iU, iR, iV⟩ := hC
  have bN := iN
  unfold cNum at bN
  have hp : wr p = p := wr_of (by omega) (by omega)
  have q := iP p p0 p1
  unfold pRow at q
  obtain ⟨m1, a1, a2⟩ := whyNot_ok (e := e) (d := d) (p := p) (c := m0 247 (110 + 9 * p + 0)) (h := m0 247 0) (k := m0 247 0) hC0 hr0 R hp (hr0 _ _) bN.1.2.1 bN.1.2.2 q.2.1.1 q.2.1.2 hm
  have y0 : wr (110 + 9 * p + 0) = 110 + 9 * p + 0 := wr_of (by omega) (by omega)
  have z0 : 0 ≤ 110 + 9 * p + 0 ∧ 110 + 9 * p + 0 < 2737 := by omega
  have ww := wr_whyS (N := m0 247) (o := m0 246 13) (p := p) (g := deg (m0 247) mi (strt (m0 247) (m0 246 13) (m0 247 0)) (m0 247 (110 + 9 * p + 0))) (h := m0 247 0) (k := m0 247 0) (by omega)
  refine ⟨m1, ?_, a2⟩
  rw [b_259_0, y0, ck_t z0, R.n, b_258_0, a1, ri_k, b_258_9, ww, bi_if, ri_k, b_259_27, ck_t nbp_bi]
  rfl
theorem nw_247 {i x : Int} (h0 : 110 ≤ i) (h1 : ¬ (254 ≤ i ∧ i < 266)) : nw (um m 247 i x 247) = nw (m 247) := nw_cg (fun j hj => um_i (by omega)) (fun j _ _ => by rw [um_i (by omega)])
theorem RM.um247 {i x : Int} (h0 : 110 ≤ i) (h1 : ¬ (254 ≤ i ∧ i < 266)) (R : RM m0 m) (hx : wr x = x) : RM (um m0 247 i x) (um m 247 i x) := by
  have rn := R.n
  obtain ⟨r1, r2, r3, r4⟩ := R
  refine ⟨r1.um hx, fun k hk => ?_, fun j hj => by rw [um_k (by decide), um_k (by decide)]; exact r3 j hj, ?_⟩
  · by_cases z : k = 247
    · rw [z, um_up, um_up, rn]
    · rw [um_r z, um_r z]; exact r2 k hk
  · rw [um_k (by decide), nw_247 h0 h1]
    unfold RefC at *
    rw [um_r (by decide)]
    exact r4
theorem RM.cls {k : Nat} {i x : Int} (hk : ¬ rfk k) (h7 : ¬ k = 247) (R : RM m0 m) (hx : wr x = x) : RM (um m0 k i x) (um m k i x) := by
  have hk2 := hk
  unfold rfk at hk2
  obtain ⟨r1, r2, r3, r4⟩ := R
  refine ⟨r1.um hx, fun k' hk' => ?_, fun j hj => by rw [um_k (by omega), um_k (by omega)]; exact r3 j hj, ?_⟩
  · by_cases z : k' = k
    · rw [z, um_up, um_up, r2 k hk]
    · rw [um_r z, um_r z]; exact r2 k' hk'
  · rw [um_k (by omega), um_r (show ¬ 247 = k by omega)]
    unfold RefC at *
    rw [um_r (by omega)]
    exact r4
theorem call_seek {p : Int} (hI : Inv m) (hp : wr p = p) : Both (Z e (d + 7) 159 0 [.ref 0, .int (iI (p))] []) (Z e (d + 14) 266 0 [.ref 246, .int (iI (p))] []) m := by
  obtain ⟨hr, ⟨iN, iG, iP, iH, iS, iD, iT, iO, iU, iR, iV⟩, iK, iL, iF, iB, iA, iW, iX⟩ := id hI
  have bN := iN
  unfold cNum at bN
  by_cases h1 : 0 ≤ p ∧ p < m 247 1
  · have y2 : wr (110 + 9 * p + 2) = 110 + 9 * p + 2 := wr_of (by omega) (by omega)
    have y3 : wr (110 + 9 * p + 3) = 110 + 9 * p + 3 := wr_of (by omega) (by omega)
    by_cases h2 : m 247 (110 + 9 * p + 2) = 0
    · obtain ⟨m1, a1, a2⟩ := L_safeNow (e := e) (d := d) hI h1.1 h1.2
      have hI1 := AS_Inv hI a2
      have en := AS_n a2
      by_cases h3 : sfN (m 247) (-1) (mile (m 247) (-1) (m 247 0)) p
      · rw [bi_t h3] at a1
        have RC : RM (um (um m1 5 (p * 18 + 2) 1) 5 (p * 18 + 3) (m 247 0)) (um (um m1 5 (p * 18 + 2) 1) 5 (p * 18 + 3) (m 247 0)) := RM.cls (by unfold rfk; omega) (by decide) (RM.cls (by unfold rfk; omega) (by decide) (RM.refl hI1) rfl) (hr _ _)
        have e2 : um (um m1 5 (p * 18 + 2) 1) 5 (p * 18 + 3) (m 247 0) 247 = m 247 := by simp (disch := first | omega | (simp (disch := first | decide | omega) only [um_k, um_e, um_i, uz_k]; omega) | exact cat_i | exact cat_u | exact cat_r | assumption | exact rfl) only [um_r, um_k, um_i, um_e, uz_r, uz_k, uz_i, uz_in]; exact en
        have e3 : um (um m1 5 (p * 18 + 2) 1) 5 (p * 18 + 3) (m 247 0) 246 = m1 246 := by simp (disch := first | omega | (simp (disch := first | decide | omega) only [um_k, um_e, um_i, uz_k]; omega) | exact cat_i | exact cat_u | exact cat_r | assumption | exact rfl) only [um_r, um_k, um_i, um_e, uz_r, uz_k, uz_i, uz_in]
        obtain ⟨m2, b1, b2⟩ := M_safeNow (e := e) (d := d) (m0 := um (um m1 5 (p * 18 + 2) 1) 5 (p * 18 + 3) (m 247 0)) (p := p) (mi := mile (m 247) (-1) (m 247 0)) (F := m) (by rw [e2]; exact hI.2.1) RC.1 RC h1.1 (by rw [e2]; exact h1.2) (by have := mil_of (h := m 247 0) hI1; unfold mil at this ⊢; rw [e2, e3]; rw [en] at this; exact this)
        rw [e2, e3, o_of hI1, bi_t h3] at b1
        have n2 := b2.n
        rw [e2] at n2
        refine ⟨1, um (um m1 5 (p * 18 + 2) 1) 5 (p * 18 + 3) (m 247 0), um (um m2 247 (110 + 9 * p + 2) 1) 247 (110 + 9 * p + 3) (m 247 0), ?_, ?_, ?_⟩
        · obtain ⟨_, ⟨jN, _, jP, _⟩, _⟩ := hI1
          have bec := W_become (e := e) (d := d + 5) (m := m1) (p := p) (s := 1) jN h1.1 (by rw [en]; exact h1.2)
          rw [en] at bec
          simp (disch := first | omega | (simp (disch := first | decide | omega) only [um_k, um_e, um_i, uz_k]; omega) | exact cat_i | exact cat_u | exact cat_r | assumption | exact rfl) only [b_159_0, b_159_19, b_159_30, b_159_45, hp, hr _ _, W_isIn hr iN iP h1.1 h1.2 (s := 0) rfl, h2, a1, bec, bi_T, wr_of, ↓reduceIte, ck_T, lt_T, lt_F, le_T, le_F, eq_T, eq_F, and_true, true_and, and_false, false_and, or_true, true_or, or_false, false_or, and_self, or_self, not_true_eq_false, not_false_eq_true, implies_true, forall_const, true_implies, false_implies, ri_k, rn_k, rr_k, wr_bi, bi_e0, bi_e1, bi_T, bi_F, Classical.not_not, itp, itn, ck_t]
        · simp (disch := first | omega | (simp (disch := first | decide | omega) only [um_k, um_e, um_i, uz_k]; omega) | exact cat_i | exact cat_u | exact cat_r | assumption | exact rfl) only [b_266_0, b_266_24, hp, e2, en, hr _ _, y2, y3, h2, b1, n2, um_i, wr_of, ↓reduceIte, ck_T, lt_T, lt_F, le_T, le_F, eq_T, eq_F, and_true, true_and, and_false, false_and, or_true, true_or, or_false, false_or, and_self, or_self, not_true_eq_false, not_false_eq_true, implies_true, forall_const, true_implies, false_implies, ri_k, rn_k, rr_k, wr_bi, bi_e0, bi_e1, bi_T, bi_F, Classical.not_not, itp, itn, ck_t]
        · have ib := Inv_bec (p := p) (s := 1) hI1 h1.1 (by rw [en]; exact h1.2) (by decide) (fun q => by omega)
          rw [en] at ib
          exact Inv_ref ib (RM.um247 (by omega) (by omega) (RM.um247 (by omega) (by omega) b2 rfl) (hr _ _))
      · rw [bi_f h3] at a1
        obtain ⟨m2, b1, b2⟩ := M_safeNow (e := e) (d := d) (p := p) hI1.2.1 hI1.1 (RM.refl hI1) h1.1 (by rw [en]; exact h1.2) (mil_of hI1)
        rw [o_of hI1, en, bi_f h3] at b1
        refine ⟨-4, m1, m2, ?_, ?_, Inv_ref hI1 b2⟩
        · simp (disch := first | omega | (simp (disch := first | decide | omega) only [um_k, um_e, um_i, uz_k]; omega) | exact cat_i | exact cat_u | exact cat_r | assumption | exact rfl) only [b_159_0, b_159_19, b_159_30, b_159_45, hp, hr _ _, W_isIn hr iN iP h1.1 h1.2 (s := 0) rfl, h2, a1, bi_T, wr_of, ↓reduceIte, ck_T, lt_T, lt_F, le_T, le_F, eq_T, eq_F, and_true, true_and, and_false, false_and, or_true, true_or, or_false, false_or, and_self, or_self, not_true_eq_false, not_false_eq_true, implies_true, forall_const, true_implies, false_implies, ri_k, rn_k, rr_k, wr_bi, bi_e0, bi_e1, bi_T, bi_F, Classical.not_not, itp, itn, ck_t]
        · simp (disch := first | omega | (simp (disch := first | decide | omega) only [um_k, um_e, um_i, uz_k]; omega) | exact cat_i | exact cat_u | exact cat_r | assumption | exact rfl) only [b_266_0, b_266_24, hp, en, hr _ _, y2, y3, h2, b1, wr_of, ↓reduceIte, ck_T, lt_T, lt_F, le_T, le_F, eq_T, eq_F, and_true, true_and, and_false, false_and, or_true, true_or, or_false, false_or, and_self, or_self, not_true_eq_false, not_false_eq_true, implies_true, forall_const, true_implies, false_implies, ri_k, rn_k, rr_k, wr_bi, bi_e0, bi_e1, bi_T, bi_F, Classical.not_not, itp, itn, ck_t]
    · refine Both.same hI (-4) ?_ ?_
      · simp (disch := first | omega | (simp (disch := first | decide | omega) only [um_k, um_e, um_i, uz_k]; omega) | exact cat_i | exact cat_u | exact cat_r | assumption | exact rfl) only [b_159_0, b_159_19, b_159_30, b_159_45, hp, hr _ _, W_isIn hr iN iP h1.1 h1.2 (s := 0) rfl, h2, bi_F, wr_of, ↓reduceIte, ck_T, lt_T, lt_F, le_T, le_F, eq_T, eq_F, and_true, true_and, and_false, false_and, or_true, true_or, or_false, false_or, and_self, or_self, not_true_eq_false, not_false_eq_true, implies_true, forall_const, true_implies, false_implies, ri_k, rn_k, rr_k, wr_bi, bi_e0, bi_e1, bi_T, bi_F, Classical.not_not, itp, itn, ck_t]
      · simp (disch := first | omega | (simp (disch := first | decide | omega) only [um_k, um_e, um_i, uz_k]; omega) | exact cat_i | exact cat_u | exact cat_r | assumption | exact rfl) only [b_266_0, b_266_24, hp, hr _ _, y2, y3, h2, wr_of, ↓reduceIte, ck_T, lt_T, lt_F, le_T, le_F, eq_T, eq_F, and_true, true_and, and_false, false_and, or_true, true_or, or_false, false_or, and_self, or_self, not_true_eq_false, not_false_eq_true, implies_true, forall_const, true_implies, false_implies, ri_k, rn_k, rr_k, wr_bi, bi_e0, bi_e1, bi_T, bi_F, Classical.not_not, itp, itn, ck_t]
  · refine Both.same hI (-1) ?_ ?_
    · simp (disch := first | omega | (simp (disch := first | decide | omega) only [um_k, um_e, um_i, uz_k]; omega) | exact cat_i | exact cat_u | exact cat_r | assumption | exact rfl) only [b_159_0, hp, hr _ _, wr_of, ↓reduceIte, ck_T, lt_T, lt_F, le_T, le_F, eq_T, eq_F, and_true, true_and, and_false, false_and, or_true, true_or, or_false, false_or, and_self, or_self, not_true_eq_false, not_false_eq_true, implies_true, forall_const, true_implies, false_implies, ri_k, rn_k, rr_k, wr_bi, bi_e0, bi_e1, bi_T, bi_F, Classical.not_not, itp, itn, ck_t]
    · simp (disch := first | omega | (simp (disch := first | decide | omega) only [um_k, um_e, um_i, uz_k]; omega) | exact cat_i | exact cat_u | exact cat_r | assumption | exact rfl) only [b_266_0, hp, hr _ _, wr_of, ↓reduceIte, ck_T, lt_T, lt_F, le_T, le_F, eq_T, eq_F, and_true, true_and, and_false, false_and, or_true, true_or, or_false, false_or, and_self, or_self, not_true_eq_false, not_false_eq_true, implies_true, forall_const, true_implies, false_implies, ri_k, rn_k, rr_k, wr_bi, bi_e0, bi_e1, bi_T, bi_F, Classical.not_not, itp, itn, ck_t]
theorem call_swear {p : Int} (hI : Inv m) (hp : wr p = p) : Both (Z e (d + 5) 160 0 [.ref 0, .int (iI (p))] []) (Z e (d + 4) 267 0 [.ref 246, .int (iI (p)), .retAddr 0] []) m := by
  obtain ⟨hr, ⟨iN, iG, iP, iH, iS, iD, iT, iO, iU, iR, iV⟩, iK, iL, iF, iB, iA, iW, iX⟩ := id hI
  have bN := iN
  unfold cNum at bN
  by_cases h1 : 0 ≤ p ∧ p < m 247 1
  · have y2 : wr (110 + 9 * p + 2) = 110 + 9 * p + 2 := wr_of (by omega) (by omega)
    have y3 : wr (110 + 9 * p + 3) = 110 + 9 * p + 3 := wr_of (by omega) (by omega)
    have hB := vB_of iN iV
    have fb := fort_b (o := -1) (h := m 247 0) hB (lB_of iV)
    have q := iP p h1.1 h1.2
    unfold pRow at q
    have q3 := q.1 3 (by decide) (by decide)
    have qb := q.2.2.2.2.1
    by_cases h2 : m 247 (110 + 9 * p + 2) = 1
    · obtain ⟨m1, a1, a2⟩ := asAt_ok (e := e) (d := d) (h := m 247 0) hI (hr _ _)
      have hI1 := AS_Inv hI a2
      have en := AS_n a2
      have ga := a2.2.2.2.2.2
      have f1 : ∀ k, ¬ (k = 193 ∨ (196 ≤ k ∧ k ≤ 205)) → m1 k = m k := a2.1
      have e1 := f1 1 (by omega)
      have e4 := f1 4 (by omega)
      have e5 := f1 5 (by omega)
      have t3 := get_4 (e := e) (d := d + 4) (m := m1) (i := p) (j := 3) (by rw [e4]; omega) (by rw [e4]; omega) h1.1 (by rw [e4]; omega) (by decide) (by decide)
      rw [e5, q3] at t3
      generalize hF : fort (m 247) (-1) (m 247 0) = FT at *
      have w24 : wr (24 * FT) = 24 * FT := wr_of (by omega) (by omega)
      have wsu : wr (m 247 0 - m 247 (110 + 9 * p + 3)) = m 247 0 - m 247 (110 + 9 * p + 3) := wr_of (by omega) (by omega)
      have wad : wr (m 247 (110 + 9 * p + 3) + 24 * FT) = m 247 (110 + 9 * p + 3) + 24 * FT := wr_of (by omega) (by omega)
      have g8 : m1 202 8 = FT := by rw [← hF]; exact ga.2.2.2.2
      by_cases h3 : m 247 0 - m 247 (110 + 9 * p + 3) ≤ 24 * FT
      · refine ⟨1, um (um m1 5 (p * 18 + 2) 2) 5 (p * 18 + 3) (m 247 0), um (um (um (um m1 5 (p * 18 + 2) 2) 5 (p * 18 + 3) (m 247 0)) 247 (110 + 9 * p + 2) 2) 247 (110 + 9 * p + 3) (m 247 0), ?_, ?_, ?_⟩
        · have bec := W_become (e := e) (d := d + 3) (m := m1) (p := p) (s := 2) hI1.2.1.1 h1.1 (by rw [en]; exact h1.2)
          rw [en] at bec
          simp (disch := first | omega | (simp (disch := first | decide | omega) only [um_k, um_e, um_i, uz_k]; omega) | exact cat_i | exact cat_u | exact cat_r | assumption | exact rfl) only [b_160_0, b_160_19, b_160_39, b_160_58, b_160_84, hp, hr _ _, W_isIn hr iN iP h1.1 h1.2 (s := 1) rfl, h2, a1, e1, bN.1.1, t3, g8, w24, wsu, h3, bec, bi_T, wr_of, ↓reduceIte, ck_T, lt_T, lt_F, le_T, le_F, eq_T, eq_F, and_true, true_and, and_false, false_and, or_true, true_or, or_false, false_or, and_self, or_self, not_true_eq_false, not_false_eq_true, implies_true, forall_const, true_implies, false_implies, ri_k, rn_k, rr_k, wr_bi, bi_e0, bi_e1, bi_T, bi_F, Classical.not_not, itp, itn, ck_t]
        · have e2 : um (um m1 5 (p * 18 + 2) 2) 5 (p * 18 + 3) (m 247 0) 247 = m 247 := by simp (disch := first | omega | (simp (disch := first | decide | omega) only [um_k, um_e, um_i, uz_k]; omega) | exact cat_i | exact cat_u | exact cat_r | assumption | exact rfl) only [um_r, um_k, um_i, um_e, uz_r, uz_k, uz_i, uz_in]; exact en
          have e3 : um (um m1 5 (p * 18 + 2) 2) 5 (p * 18 + 3) (m 247 0) 246 13 = -1 := by simp (disch := first | omega | (simp (disch := first | decide | omega) only [um_k, um_e, um_i, uz_k]; omega) | exact cat_i | exact cat_u | exact cat_r | assumption | exact rfl) only [um_r, um_k, um_i, um_e, uz_r, uz_k, uz_i, uz_in]; exact o_of hI1
          have b1 := ruled_2 (e := e) (d := d) (m := um (um m1 5 (p * 18 + 2) 2) 5 (p * 18 + 3) (m 247 0)) (h := m 247 0) ((hI1.1.um rfl).um (hr _ _)) (by rw [e2]; exact hB) (hr _ _)
          rw [e2, e3, hF] at b1
          simp (disch := first | omega | (simp (disch := first | decide | omega) only [um_k, um_e, um_i, uz_k]; omega) | exact cat_i | exact cat_u | exact cat_r | assumption | exact rfl) only [b_267_0, b_267_39, hp, e2, en, hr _ _, y2, y3, h2, b1, wad, um_i, wr_of, ↓reduceIte, ck_T, lt_T, lt_F, le_T, le_F, eq_T, eq_F, and_true, true_and, and_false, false_and, or_true, true_or, or_false, false_or, and_self, or_self, not_true_eq_false, not_false_eq_true, implies_true, forall_const, true_implies, false_implies, ri_k, rn_k, rr_k, wr_bi, bi_e0, bi_e1, bi_T, bi_F, Classical.not_not, itp, itn, ck_t]
        · have ib := Inv_bec (p := p) (s := 2) hI1 h1.1 (by rw [en]; exact h1.2) (by decide) (fun q => by omega)
          rw [en] at ib
          exact ib
      · have b1 := ruled_2 (e := e) (d := d) (m := m1) (h := m 247 0) hI1.1 (by rw [en]; exact hB) (hr _ _)
        rw [en, o_of hI1, hF] at b1
        refine ⟨-4, m1, m1, ?_, ?_, hI1⟩
        · simp (disch := first | omega | (simp (disch := first | decide | omega) only [um_k, um_e, um_i, uz_k]; omega) | exact cat_i | exact cat_u | exact cat_r | assumption | exact rfl) only [b_160_0, b_160_19, b_160_39, b_160_58, b_160_84, hp, hr _ _, W_isIn hr iN iP h1.1 h1.2 (s := 1) rfl, h2, a1, e1, bN.1.1, t3, g8, w24, wsu, h3, bi_T, wr_of, ↓reduceIte, ck_T, lt_T, lt_F, le_T, le_F, eq_T, eq_F, and_true, true_and, and_false, false_and, or_true, true_or, or_false, false_or, and_self, or_self, not_true_eq_false, not_false_eq_true, implies_true, forall_const, true_implies, false_implies, ri_k, rn_k, rr_k, wr_bi, bi_e0, bi_e1, bi_T, bi_F, Classical.not_not, itp, itn, ck_t]
        · simp (disch := first | omega | (simp (disch := first | decide | omega) only [um_k, um_e, um_i, uz_k]; omega) | exact cat_i | exact cat_u | exact cat_r | assumption | exact rfl) only [b_267_0, b_267_39, hp, en, hr _ _, y2, y3, h2, b1, wad, wr_of, ↓reduceIte, ck_T, lt_T, lt_F, le_T, le_F, eq_T, eq_F, and_true, true_and, and_false, false_and, or_true, true_or, or_false, false_or, and_self, or_self, not_true_eq_false, not_false_eq_true, implies_true, forall_const, true_implies, false_implies, ri_k, rn_k, rr_k, wr_bi, bi_e0, bi_e1, bi_T, bi_F, Classical.not_not, itp, itn, ck_t]
    · have b1 := ruled_2 (e := e) (d := d) (m := m) (h := m 247 0) hr hB (hr _ _)
      refine Both.same hI (-4) ?_ ?_
      · simp (disch := first | omega | (simp (disch := first | decide | omega) only [um_k, um_e, um_i, uz_k]; omega) | exact cat_i | exact cat_u | exact cat_r | assumption | exact rfl) only [b_160_0, b_160_19, b_160_39, b_160_58, b_160_84, hp, hr _ _, W_isIn hr iN iP h1.1 h1.2 (s := 1) rfl, h2, bi_F, wr_of, ↓reduceIte, ck_T, lt_T, lt_F, le_T, le_F, eq_T, eq_F, and_true, true_and, and_false, false_and, or_true, true_or, or_false, false_or, and_self, or_self, not_true_eq_false, not_false_eq_true, implies_true, forall_const, true_implies, false_implies, ri_k, rn_k, rr_k, wr_bi, bi_e0, bi_e1, bi_T, bi_F, Classical.not_not, itp, itn, ck_t]
      · simp (disch := first | omega | (simp (disch := first | decide | omega) only [um_k, um_e, um_i, uz_k]; omega) | exact cat_i | exact cat_u | exact cat_r | assumption | exact rfl) only [b_267_0, b_267_39, hp, hr _ _, y2, y3, h2, b1, wr_of, ↓reduceIte, ck_T, lt_T, lt_F, le_T, le_F, eq_T, eq_F, and_true, true_and, and_false, false_and, or_true, true_or, or_false, false_or, and_self, or_self, not_true_eq_false, not_false_eq_true, implies_true, forall_const, true_implies, false_implies, ri_k, rn_k, rr_k, wr_bi, bi_e0, bi_e1, bi_T, bi_F, Classical.not_not, itp, itn, ck_t]
  · refine Both.same hI (-1) ?_ ?_
    · simp (disch := first | omega | (simp (disch := first | decide | omega) only [um_k, um_e, um_i, uz_k]; omega) | exact cat_i | exact cat_u | exact cat_r | assumption | exact rfl) only [b_160_0, hp, hr _ _, wr_of, ↓reduceIte, ck_T, lt_T, lt_F, le_T, le_F, eq_T, eq_F, and_true, true_and, and_false, false_and, or_true, true_or, or_false, false_or, and_self, or_self, not_true_eq_false, not_false_eq_true, implies_true, forall_const, true_implies, false_implies, ri_k, rn_k, rr_k, wr_bi, bi_e0, bi_e1, bi_T, bi_F, Classical.not_not, itp, itn, ck_t]
    · simp (disch := first | omega | (simp (disch := first | decide | omega) only [um_k, um_e, um_i, uz_k]; omega) | exact cat_i | exact cat_u | exact cat_r | assumption | exact rfl) only [b_267_0, hp, hr _ _, wr_of, ↓reduceIte, ck_T, lt_T, lt_F, le_T, le_F, eq_T, eq_F, and_true, true_and, and_false, false_and, or_true, true_or, or_false, false_or, and_self, or_self, not_true_eq_false, not_false_eq_true, implies_true, forall_const, true_implies, false_implies, ri_k, rn_k, rr_k, wr_bi, bi_e0, bi_e1, bi_T, bi_F, Classical.not_not, itp, itn, ck_t]
end SK
