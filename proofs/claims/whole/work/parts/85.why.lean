/-! line, counts, why, safe, seek, swear. -/
section WY
variable {e : List Int32 × Value} {d : Nat} {m m0 : zMm}
theorem P_lineok {q c h : Int} (hI : Inv m) (q0 : 0 ≤ q) (q1 : q < m 247 4) (c0 : 0 ≤ c) (c1 : c < 100) (h0 : 0 ≤ h) (h1 : h ≤ 9999) (hq : m 247 (794 + 6 * q + 3) ≤ h) : ∃ m1, Z e (d + 5) 155 0 [.ref 0, .int (iI (q)), .int (iI (c)), .int (iI (h))] [] m = ri (if lnO (m 247) (-1) q (deg (m 247) (mile (m 247) (-1) h) (strt (m 247) (-1) h) c) h < 0 then -3 else lnO (m 247) (-1) q (deg (m 247) (mile (m 247) (-1) h) (strt (m 247) (-1) h) c) h) m1 ∧ AS (m 247) h m m1 := by
  obtain ⟨hr, ⟨iN, iG, iP, iH, iS, iD, iT, iO, iU, iR, iV⟩, iK, iL, iF, iB, iA, iW, iX⟩ := id hI
  have bN := iN
  unfold cNum at bN
  have hh : wr h = h := wr_of (by omega) (by omega)
  have hc : wr c = c := wr_of (by omega) (by omega)
  have wq : wr q = q := wr_of (by omega) (by omega)
  obtain ⟨m1, a1, a2⟩ := asAt_ok (e := e) (d := d) hI hh
  have X := AS_LX hI a2
  have en := AS_n a2
  have dg := X_degree (e := e) (d := d + 1) X c0 c1
  have gb := deg_b (sB_of iN iS) (mi := mile (m 247) (-1) h) (st := strt (m 247) (-1) h) (c := c)
  have tl := L_tells (e := e) (d := d + 2) (q := q) (g := deg (m 247) (mile (m 247) (-1) h) (strt (m 247) (-1) h) c) X q0 (by rw [en]; exact q1) (by omega) ⟨h0, h1⟩
  rw [en] at dg tl
  refine ⟨m1, ?_, a2⟩
  have i3 := (iD q q0 q1).1 3 (by decide) (by decide)
  have w3 := hr 247 (794 + 6 * q + 3)
  generalize lnO (m 247) (-1) q (deg (m 247) (mile (m 247) (-1) h) (strt (m 247) (-1) h) c) h = LL at *
  generalize deg (m 247) (mile (m 247) (-1) h) (strt (m 247) (-1) h) c = g at *
  simp (disch := first | omega | (simp (disch := first | decide | omega) only [um_k, um_e, um_i, uz_k]; omega) | exact cat_i | exact cat_u | exact cat_r | assumption | exact rfl) only [b_155_0, b_155_43, b_155_56, b_155_69, b_155_73, hh, hc, wq, hr _ _, get_8, i3, w3, hq, a1, dg, tl, wr_of, ↓reduceIte, ck_T, lt_T, lt_F, le_T, le_F, eq_T, eq_F, and_true, true_and, and_false, false_and, or_true, true_or, or_false, false_or, and_self, or_self, not_true_eq_false, not_false_eq_true, implies_true, forall_const, true_implies, false_implies, ri_k, rn_k, rr_k, wr_bi, bi_e0, bi_e1, bi_T, bi_F, Classical.not_not, itp, itn, ck_t]
theorem call_line {q c h : Int} (hI : Inv m) (hq : wr q = q) (hc : wr c = c) (hh : wr h = h) : Both (Z e (d + 5) 155 0 [.ref 0, .int (iI (q)), .int (iI (c)), .int (iI (h))] []) (Z e (d + 10) 256 0 [.ref 246, .int (iI (q)), .int (iI (c)), .int (iI (h)), .retAddr 0] []) m := by
  obtain ⟨hr, ⟨iN, iG, iP, iH, iS, iD, iT, iO, iU, iR, iV⟩, iK, iL, iF, iB, iA, iW, iX⟩ := id hI
  have bN := iN
  unfold cNum at bN
  by_cases h1 : 0 ≤ q ∧ q < m 247 4 ∧ 0 ≤ c ∧ c < 100 ∧ 0 ≤ h ∧ h ≤ 9999
  · obtain ⟨q0, q1, c0, c1, h0, h9⟩ := h1
    have i3 := (iD q q0 q1).1 3 (by decide) (by decide)
    have w3 := hr 247 (794 + 6 * q + 3)
    have y3 : wr (794 + 6 * q + 3) = 794 + 6 * q + 3 := wr_of (by omega) (by omega)
    by_cases h2 : m 247 (794 + 6 * q + 3) ≤ h
    · obtain ⟨m1, a1, a2⟩ := P_lineok (e := e) (d := d) hI q0 q1 c0 c1 h0 h9 h2
      have hI1 := AS_Inv hI a2
      have en := AS_n a2
      obtain ⟨m2, b1, b2⟩ := lineOf_ok (e := e) (d := d) hI1.2.1 hI1.1 (RM.refl hI1) h0 h9 c0 c1 q0 (by rw [en]; exact q1) (mil_of hI1)
      rw [o_of hI1, en] at b1
      have r1 := hI1.1
      refine ⟨_, m1, m2, a1, ?_, Inv_ref hI1 b2⟩
      have wl : wr (lnO (m 247) (-1) q (deg (m 247) (mile (m 247) (-1) h) (strt (m 247) (-1) h) c) h) = lnO (m 247) (-1) q (deg (m 247) (mile (m 247) (-1) h) (strt (m 247) (-1) h) c) h := by
        rcases lnO_cases (vB_of iN iV) (o := -1) (q := q) (g := deg (m 247) (mile (m 247) (-1) h) (strt (m 247) (-1) h) c) (h := h) with ⟨_, k1, _⟩ | ⟨k1, _, _⟩
        · rw [k1]; rfl
        · obtain ⟨g0, g1, g2, g3⟩ := k1
          exact wr_of (by omega) (by omega)
      generalize lnO (m 247) (-1) q (deg (m 247) (mile (m 247) (-1) h) (strt (m 247) (-1) h) c) h = LL at *
      simp (disch := first | omega | (simp (disch := first | decide | omega) only [um_k, um_e, um_i, uz_k]; omega) | exact cat_i | exact cat_u | exact cat_r | assumption | exact rfl) only [b_256_0, b_256_19, hh, hc, hq, en, hr _ _, y3, w3, h2, b1, wl, wr_of, ↓reduceIte, ck_T, lt_T, lt_F, le_T, le_F, eq_T, eq_F, and_true, true_and, and_false, false_and, or_true, true_or, or_false, false_or, and_self, or_self, not_true_eq_false, not_false_eq_true, implies_true, forall_const, true_implies, false_implies, ri_k, rn_k, rr_k, wr_bi, bi_e0, bi_e1, bi_T, bi_F, Classical.not_not, itp, itn, ck_t]
    · refine Both.same hI (-1) ?_ ?_
      · simp (disch := first | omega | (simp (disch := first | decide | omega) only [um_k, um_e, um_i, uz_k]; omega) | exact cat_i | exact cat_u | exact cat_r | assumption | exact rfl) only [b_155_0, b_155_43, b_155_56, b_155_69, b_155_73, hh, hc, hq, hr _ _, get_8, i3, w3, h2, wr_of, ↓reduceIte, ck_T, lt_T, lt_F, le_T, le_F, eq_T, eq_F, and_true, true_and, and_false, false_and, or_true, true_or, or_false, false_or, and_self, or_self, not_true_eq_false, not_false_eq_true, implies_true, forall_const, true_implies, false_implies, ri_k, rn_k, rr_k, wr_bi, bi_e0, bi_e1, bi_T, bi_F, Classical.not_not, itp, itn, ck_t]
      · simp (disch := first | omega | (simp (disch := first | decide | omega) only [um_k, um_e, um_i, uz_k]; omega) | exact cat_i | exact cat_u | exact cat_r | assumption | exact rfl) only [b_256_0, b_256_19, hh, hc, hq, hr _ _, y3, w3, h2, wr_of, ↓reduceIte, ck_T, lt_T, lt_F, le_T, le_F, eq_T, eq_F, and_true, true_and, and_false, false_and, or_true, true_or, or_false, false_or, and_self, or_self, not_true_eq_false, not_false_eq_true, implies_true, forall_const, true_implies, false_implies, ri_k, rn_k, rr_k, wr_bi, bi_e0, bi_e1, bi_T, bi_F, Classical.not_not, itp, itn, ck_t]
  · refine Both.same hI (-1) ?_ ?_
    · simp (disch := first | omega | (simp (disch := first | decide | omega) only [um_k, um_e, um_i, uz_k]; omega) | exact cat_i | exact cat_u | exact cat_r | assumption | exact rfl) only [b_155_0, hh, hc, hq, hr _ _, wr_of, ↓reduceIte, ck_T, lt_T, lt_F, le_T, le_F, eq_T, eq_F, and_true, true_and, and_false, false_and, or_true, true_or, or_false, false_or, and_self, or_self, not_true_eq_false, not_false_eq_true, implies_true, forall_const, true_implies, false_implies, ri_k, rn_k, rr_k, wr_bi, bi_e0, bi_e1, bi_T, bi_F, Classical.not_not, itp, itn, ck_t]
    · simp (disch := first | omega | (simp (disch := first | decide | omega) only [um_k, um_e, um_i, uz_k]; omega) | exact cat_i | exact cat_u | exact cat_r | assumption | exact rfl) only [b_256_0, hh, hc, hq, hr _ _, wr_of, ↓reduceIte, ck_T, lt_T, lt_F, le_T, le_F, eq_T, eq_F, and_true, true_and, and_false, false_and, or_true, true_or, or_false, false_or, and_self, or_self, not_true_eq_false, not_false_eq_true, implies_true, forall_const, true_implies, false_implies, ri_k, rn_k, rr_k, wr_bi, bi_e0, bi_e1, bi_T, bi_F, Classical.not_not, itp, itn, ck_t]
theorem call_counts {q c h : Int} (hI : Inv m) (hq : wr q = q) (hc : wr c = c) (hh : wr h = h) : Both (Z e (d + 6) 154 0 [.ref 0, .int (iI (q)), .int (iI (c)), .int (iI (h)), .retAddr 0] []) (Z e (d + 11) 255 0 [.ref 246, .int (iI (q)), .int (iI (c)), .int (iI (h))] []) m := by
  obtain ⟨hr, ⟨iN, iG, iP, iH, iS, iD, iT, iO, iU, iR, iV⟩, iK, iL, iF, iB, iA, iW, iX⟩ := id hI
  have bN := iN
  unfold cNum at bN
  by_cases h1 : 0 ≤ q ∧ q < m 247 4 ∧ 0 ≤ c ∧ c < 100 ∧ 0 ≤ h ∧ h ≤ 9999
  · obtain ⟨q0, q1, c0, c1, h0, h9⟩ := h1
    have i3 := (iD q q0 q1).1 3 (by decide) (by decide)
    have w3 := hr 247 (794 + 6 * q + 3)
    have y3 : wr (794 + 6 * q + 3) = 794 + 6 * q + 3 := wr_of (by omega) (by omega)
    by_cases h2 : m 247 (794 + 6 * q + 3) ≤ h
    · obtain ⟨m1, a1, a2⟩ := P_lineok (e := e) (d := d) hI q0 q1 c0 c1 h0 h9 h2
      have hI1 := AS_Inv hI a2
      have en := AS_n a2
      obtain ⟨m2, b1, b2⟩ := doesCount_ok (e := e) (d := d) hI1.2.1 hI1.1 (RM.refl hI1) h0 h9 c0 c1 q0 (by rw [en]; exact q1) (mil_of hI1)
      rw [o_of hI1, en] at b1
      have r1 := hI1.1
      generalize hg : deg (m 247) (mile (m 247) (-1) h) (strt (m 247) (-1) h) c = g at *
      refine ⟨bi (¬ fails (m 247) (-1) q g h), m1, m2, ?_, ?_, Inv_ref hI1 b2⟩
      · have iV1 := hI1.2.1.2.2.2.2.2.2.2.2.2.2
        rw [en] at iV1
        rcases lnO_cases (vB_of iN iV) (o := -1) (q := q) (g := g) (h := h) with ⟨_, k1, _⟩ | ⟨k1, _, _⟩
        · rw [k1, if_pos (show (-1 : Int) < 0 by decide)] at a1
          rw [b_154_0, a1, ri_k, b_154_7 cat_i, itn (by decide), ck_t (fun z => absurd z (by decide)), itp (fun z => absurd z.1 (by decide)), bi_t (fun z => by have := z.1; omega)]
        · obtain ⟨g0, g1, g2, g3⟩ := k1
          have lr := lRow_of iV1 (v := lnO (m 247) (-1) q g h / 100) (l := lnO (m 247) (-1) q g h % 100) (by omega) g1 (by omega) g3
          unfold lRow at lr
          have efl : fails (m 247) (-1) q g h ↔ lk (m 247) (lnO (m 247) (-1) q g h / 100) (lnO (m 247) (-1) q g h % 100) = 6 := ⟨fun z => z.2, fun z => ⟨g0, z⟩⟩
          have ea : wr (m1 (18 + 6 * (lnO (m 247) (-1) q g h / 100).toNat + 1) (lnO (m 247) (-1) q g h % 100)) = lk (m 247) (lnO (m 247) (-1) q g h / 100) (lnO (m 247) (-1) q g h % 100) := by rw [r1]; exact lr.1.1
          have q12 : 0 ≤ lnO (m 247) (-1) q g h / 100 ∧ lnO (m 247) (-1) q g h / 100 < 12 := by omega
          have q10 : 0 ≤ lnO (m 247) (-1) q g h % 100 ∧ lnO (m 247) (-1) q g h % 100 < 10 := by omega
          have jd : jdiv (lnO (m 247) (-1) q g h) 100 = lnO (m 247) (-1) q g h / 100 := jdiv_n g0 (by omega) (by decide) (by decide)
          have jr : jrem (lnO (m 247) (-1) q g h) 100 = lnO (m 247) (-1) q g h % 100 := jrem_n g0 (by omega) (by decide) (by decide)
          have wd : wr (lnO (m 247) (-1) q g h / 100) = lnO (m 247) (-1) q g h / 100 := wr_of (by omega) (by omega)
          have wm : wr (lnO (m 247) (-1) q g h % 100) = lnO (m 247) (-1) q g h % 100 := wr_of (by omega) (by omega)
          have wc : wr (lnO (m 247) (-1) q g h) = lnO (m 247) (-1) q g h := wr_of (by omega) (by omega)
          rw [if_neg (show ¬ lnO (m 247) (-1) q g h < 0 by omega)] at a1
          rw [b_154_0, a1, ri_k, b_154_7 cat_i, wc, itn (by omega), jd, jr, wd, wm, ck_t (fun _ => ⟨q12, q10⟩), ea]
          by_cases l6 : lk (m 247) (lnO (m 247) (-1) q g h / 100) (lnO (m 247) (-1) q g h % 100) = 6
          · rw [itn (fun z => z ⟨g0, l6⟩), bi_f (fun z => z (efl.mpr l6))]
          · rw [itp (show ¬ (0 ≤ lnO (m 247) (-1) q g h ∧ lk (m 247) (lnO (m 247) (-1) q g h / 100) (lnO (m 247) (-1) q g h % 100) = 6) from fun z => l6 z.2), bi_t (fun z => l6 (efl.mp z))]
      · rcases bi_01 (P := ¬ fails (m 247) (-1) q g h) with z | z
        · rw [z] at b1 ⊢
          simp (disch := first | omega | (simp (disch := first | decide | omega) only [um_k, um_e, um_i, uz_k]; omega) | exact cat_i | exact cat_u | exact cat_r | assumption | exact rfl) only [b_255_0, b_255_21, hh, hc, hq, en, hr _ _, y3, w3, h2, b1, wr_of, ↓reduceIte, ck_T, lt_T, lt_F, le_T, le_F, eq_T, eq_F, and_true, true_and, and_false, false_and, or_true, true_or, or_false, false_or, and_self, or_self, not_true_eq_false, not_false_eq_true, implies_true, forall_const, true_implies, false_implies, ri_k, rn_k, rr_k, wr_bi, bi_e0, bi_e1, bi_T, bi_F, Classical.not_not, itp, itn, ck_t]
        · rw [z] at b1 ⊢
          simp (disch := first | omega | (simp (disch := first | decide | omega) only [um_k, um_e, um_i, uz_k]; omega) | exact cat_i | exact cat_u | exact cat_r | assumption | exact rfl) only [b_255_0, b_255_21, hh, hc, hq, en, hr _ _, y3, w3, h2, b1, wr_of, ↓reduceIte, ck_T, lt_T, lt_F, le_T, le_F, eq_T, eq_F, and_true, true_and, and_false, false_and, or_true, true_or, or_false, false_or, and_self, or_self, not_true_eq_false, not_false_eq_true, implies_true, forall_const, true_implies, false_implies, ri_k, rn_k, rr_k, wr_bi, bi_e0, bi_e1, bi_T, bi_F, Classical.not_not, itp, itn, ck_t]
    · refine Both.same hI (-1) ?_ ?_
      · simp (disch := first | omega | (simp (disch := first | decide | omega) only [um_k, um_e, um_i, uz_k]; omega) | exact cat_i | exact cat_u | exact cat_r | assumption | exact rfl) only [b_154_0, b_154_7, b_155_0, b_155_43, b_155_56, b_155_69, b_155_73, hh, hc, hq, hr _ _, get_8, i3, w3, h2, wr_of, ↓reduceIte, ck_T, lt_T, lt_F, le_T, le_F, eq_T, eq_F, and_true, true_and, and_false, false_and, or_true, true_or, or_false, false_or, and_self, or_self, not_true_eq_false, not_false_eq_true, implies_true, forall_const, true_implies, false_implies, ri_k, rn_k, rr_k, wr_bi, bi_e0, bi_e1, bi_T, bi_F, Classical.not_not, itp, itn, ck_t]
      · simp (disch := first | omega | (simp (disch := first | decide | omega) only [um_k, um_e, um_i, uz_k]; omega) | exact cat_i | exact cat_u | exact cat_r | assumption | exact rfl) only [b_255_0, b_255_21, hh, hc, hq, hr _ _, y3, w3, h2, wr_of, ↓reduceIte, ck_T, lt_T, lt_F, le_T, le_F, eq_T, eq_F, and_true, true_and, and_false, false_and, or_true, true_or, or_false, false_or, and_self, or_self, not_true_eq_false, not_false_eq_true, implies_true, forall_const, true_implies, false_implies, ri_k, rn_k, rr_k, wr_bi, bi_e0, bi_e1, bi_T, bi_F, Classical.not_not, itp, itn, ck_t]
  · refine Both.same hI (-1) ?_ ?_
    · simp (disch := first | omega | (simp (disch := first | decide | omega) only [um_k, um_e, um_i, uz_k]; omega) | exact cat_i | exact cat_u | exact cat_r | assumption | exact rfl) only [b_154_0, b_154_7, b_155_0, hh, hc, hq, hr _ _, wr_of, ↓reduceIte, ck_T, lt_T, lt_F, le_T, le_F, eq_T, eq_F, and_true, true_and, and_false, false_and, or_true, true_or, or_false, false_or, and_self, or_self, not_true_eq_false, not_false_eq_true, implies_true, forall_const, true_implies, false_implies, ri_k, rn_k, rr_k, wr_bi, bi_e0, bi_e1, bi_T, bi_F, Classical.not_not, itp, itn, ck_t]
    · simp (disch := first | omega | (simp (disch := first | decide | omega) only [um_k, um_e, um_i, uz_k]; omega) | exact cat_i | exact cat_u | exact cat_r | assumption | exact rfl) only [b_255_0, hh, hc, hq, hr _ _, wr_of, ↓reduceIte, ck_T, lt_T, lt_F, le_T, le_F, eq_T, eq_F, and_true, true_and, and_false, false_and, or_true, true_or, or_false, false_or, and_self, or_self, not_true_eq_false, not_false_eq_true, implies_true, forall_const, true_implies, false_implies, ri_k, rn_k, rr_k, wr_bi, bi_e0, bi_e1, bi_T, bi_F, Classical.not_not, itp, itn, ck_t]
/-- how whyS can be -/
theorem whyS_b {N : Int → Int} {o p g h k : Int} (b4 : N 4 ≤ 24) : (0 ≤ whyS N o p g h k ∧ whyS N o p g h k < 24) ∨ whyS N o p g h k = -3 ∨ whyS N o p g h k = -9 := by
  unfold whyS
  rcases fst1_cases (P := fls N o p g h k) (n := N 4) with z | z
  · have : ff N o p g h k = -3 := z.1
    rw [if_neg (fun y => y this)]
    split
    · exact Or.inr (Or.inl rfl)
    · exact Or.inr (Or.inr rfl)
  · have z1 : 0 ≤ ff N o p g h k := z.1
    have z2 : ff N o p g h k < N 4 := z.2.1
    rw [if_pos (by omega)]
    exact Or.inl (by omega)
theorem wr_whyS {N : Int → Int} {o p g h k : Int} (b4 : N 4 ≤ 24) : wr (whyS N o p g h k) = whyS N o p g h k := by
  have := whyS_b (o := o) (p := p) (g := g) (h := h) (k := k) b4
  exact wr_of (by omega) (by omega)
theorem X_reason {o p c h k : Int} (X : LX o h m) (hp : wr p = p) (hk : wr k = k) (c0 : 0 ≤ c) (c1 : c < 100) (h0 : 0 ≤ h) (h1 : h ≤ 9999) : Z e (d + 4) 30 5 [.ref 202, .int (iI p), .int (iI c), .int (iI h), .int (iI k), .retAddr 0, .retAddr 0] [] m = ri (whyS (m 247) o p (deg (m 247) (mile (m 247) o h) (strt (m 247) o h) c) h k) m := by
  have dg := X_degree (e := e) (d := d) X c0 c1
  have gb := deg_b (sB_of X.1.1 X.1.2.2.2.2.1) (mi := mile (m 247) o h) (st := strt (m 247) o h) (c := c)
  have fs := L_first (e := e) (d := d) (p := p) (g := deg (m 247) (mile (m 247) o h) (strt (m 247) o h) c) (k := k) X hp hk (by omega) ⟨h0, h1⟩
  have bN := X.1.1
  unfold cNum at bN
  generalize deg (m 247) (mile (m 247) o h) (strt (m 247) o h) c = g at *
  have wf : wr (ff (m 247) o p g h k) = ff (m 247) o p g h k := by
    rcases fst1_cases (P := fls (m 247) o p g h k) (n := m 247 4) with z | z
    · have : ff (m 247) o p g h k = -3 := z.1
      rw [this]; rfl
    · have z1 : 0 ≤ ff (m 247) o p g h k := z.1
      have z2 : ff (m 247) o p g h k < m 247 4 := z.2.1
      exact wr_of (by omega) (by omega)
  have wg : wr g = g := wr_of (by omega) (by omega)
  rw [b_30_5, dg, ri_k, b_30_10, fs, ri_k, b_30_22, wf, wg]
  unfold whyS
  by_cases z : ff (m 247) o p g h k = -3
  · rw [itn (show ¬ ¬ ff (m 247) o p g h k = -3 from fun y => y z), if_neg (show ¬ ¬ ff (m 247) o p g h k = -3 from fun y => y z)]
  · rw [itp z, if_pos z]
theorem L_reason {p c h k : Int} (hI : Inv m) (hp : wr p = p) (hk : wr k = k) (c0 : 0 ≤ c) (c1 : c < 100) (h0 : 0 ≤ h) (h1 : h ≤ 9999) : ∃ m1, Z e (d + 5) 30 0 [.ref 202, .int (iI p), .int (iI c), .int (iI h), .int (iI k), .retAddr 0, .retAddr 0] [] m = ri (whyS (m 247) (-1) p (deg (m 247) (mile (m 247) (-1) h) (strt (m 247) (-1) h) c) h k) m1 ∧ AS (m 247) h m m1 := by
  obtain ⟨m1, a1, a2⟩ := asAt_ok (e := e) (d := d) hI (show wr h = h from wr_of (by omega) (by omega))
  have rs := X_reason (e := e) (d := d + 1) (p := p) (k := k) (AS_LX hI a2) hp hk c0 c1 h0 h1
  rw [AS_n a2] at rs
  exact ⟨m1, by rw [b_30_0, a1, rn_k, rs], a2⟩
theorem M_whyI {p c h k : Int} (hI : Inv m) (hp : wr p = p) (hk : wr k = k) (c0 : 0 ≤ c) (c1 : c < 100) (h0 : 0 ≤ h) (h1 : h ≤ 9999) : ∃ m', Z e (d + 11) 257 0 [.ref 246, .int (iI p), .int (iI c), .int (iI h), .int (iI k), .retAddr 0, .retAddr 0] [] m = ri (whyS (m 247) (-1) p (deg (m 247) (mile (m 247) (-1) h) (strt (m 247) (-1) h) c) h k) m' ∧ RM m m' := by
  have q := whyNot_ok (e := e) (d := d) hI.2.1 hI.1 (RM.refl hI) hp hk h0 h1 c0 c1 (mil_of hI)
  rw [o_of hI] at q
  exact q
theorem call_why {p c h k : Int} (hI : Inv m) (hp : wr p = p) (hc : wr c = c) (hh : wr h = h) (hk : wr k = k) : Both (Z e (d + 6) 157 0 [.ref 0, .int (iI (p)), .int (iI (c)), .int (iI (h)), .int (iI (k))] []) (Z e (d + 12) 261 0 [.ref 246, .int (iI (p)), .int (iI (c)), .int (iI (h)), .int (iI (k))] []) m := by
  obtain ⟨hr, ⟨iN, iG, iP, iH, iS, iD, iT, iO, iU, iR, iV⟩, iK, iL, iF, iB, iA, iW, iX⟩ := id hI
  have bN := iN
  unfold cNum at bN
  by_cases h1 : 0 ≤ p ∧ p < m 247 1 ∧ 0 ≤ c ∧ c < 100 ∧ 0 ≤ h ∧ h ≤ 9999 ∧ 0 ≤ k ∧ k ≤ 9999
  · obtain ⟨p0, p1, c0, c1, h0, h9, k0, k9⟩ := h1
    obtain ⟨m1, a1, a2⟩ := L_reason (e := e) (d := d) hI hp hk c0 c1 h0 h9
    have hI1 := AS_Inv hI a2
    have en := AS_n a2
    obtain ⟨m2, b1, b2⟩ := M_whyI (e := e) (d := d) hI1 hp hk c0 c1 h0 h9
    rw [en] at b1
    refine ⟨whyS (m 247) (-1) p (deg (m 247) (mile (m 247) (-1) h) (strt (m 247) (-1) h) c) h k, m1, m2, ?_, ?_, Inv_ref hI1 b2⟩
    · simp (disch := first | omega | (simp (disch := first | decide | omega) only [um_k, um_e, um_i, uz_k]; omega) | exact cat_i | exact cat_u | exact cat_r | assumption | exact rfl) only [b_157_0, b_157_44, hp, hh, hc, hk, hr _ _, a1, wr_of, ↓reduceIte, ck_T, lt_T, lt_F, le_T, le_F, eq_T, eq_F, and_true, true_and, and_false, false_and, or_true, true_or, or_false, false_or, and_self, or_self, not_true_eq_false, not_false_eq_true, implies_true, forall_const, true_implies, false_implies, ri_k, rn_k, rr_k, wr_bi, bi_e0, bi_e1, bi_T, bi_F, Classical.not_not, itp, itn, ck_t]
    · simp (disch := first | omega | (simp (disch := first | decide | omega) only [um_k, um_e, um_i, uz_k]; omega) | exact cat_i | exact cat_u | exact cat_r | assumption | exact rfl) only [b_261_0, b_261_43, hp, hh, hc, hk, en, hr _ _, b1, wr_of, ↓reduceIte, ck_T, lt_T, lt_F, le_T, le_F, eq_T, eq_F, and_true, true_and, and_false, false_and, or_true, true_or, or_false, false_or, and_self, or_self, not_true_eq_false, not_false_eq_true, implies_true, forall_const, true_implies, false_implies, ri_k, rn_k, rr_k, wr_bi, bi_e0, bi_e1, bi_T, bi_F, Classical.not_not, itp, itn, ck_t]
  · refine Both.same hI (-1) ?_ ?_
    · simp (disch := first | omega | (simp (disch := first | decide | omega) only [um_k, um_e, um_i, uz_k]; omega) | exact cat_i | exact cat_u | exact cat_r | assumption | exact rfl) only [b_157_0, hp, hh, hc, hk, hr _ _, wr_of, ↓reduceIte, ck_T, lt_T, lt_F, le_T, le_F, eq_T, eq_F, and_true, true_and, and_false, false_and, or_true, true_or, or_false, false_or, and_self, or_self, not_true_eq_false, not_false_eq_true, implies_true, forall_const, true_implies, false_implies, ri_k, rn_k, rr_k, wr_bi, bi_e0, bi_e1, bi_T, bi_F, Classical.not_not, itp, itn, ck_t]
    · simp (disch := first | omega | (simp (disch := first | decide | omega) only [um_k, um_e, um_i, uz_k]; omega) | exact cat_i | exact cat_u | exact cat_r | assumption | exact rfl) only [b_261_0, hp, hh, hc, hk, hr _ _, wr_of, ↓reduceIte, ck_T, lt_T, lt_F, le_T, le_F, eq_T, eq_F, and_true, true_and, and_false, false_and, or_true, true_or, or_false, false_or, and_self, or_self, not_true_eq_false, not_false_eq_true, implies_true, forall_const, true_implies, false_implies, ri_k, rn_k, rr_k, wr_bi, bi_e0, bi_e1, bi_T, bi_F, Classical.not_not, itp, itn, ck_t]
theorem call_safe {p c h k : Int} (hI : Inv m) (hp : wr p = p) (hc : wr c = c) (hh : wr h = h) (hk : wr k = k) : Both (Z e (d + 7) 156 0 [.ref 0, .int (iI (p)), .int (iI (c)), .int (iI (h)), .int (iI (k)), .retAddr 0] []) (Z e (d + 13) 260 0 [.ref 246, .int (iI (p)), .int (iI (c)), .int (iI (h)), .int (iI (k))] []) m := by
  obtain ⟨hr, ⟨iN, iG, iP, iH, iS, iD, iT, iO, iU, iR, iV⟩, iK, iL, iF, iB, iA, iW, iX⟩ := id hI
  have bN := iN
  unfold cNum at bN
  by_cases h1 : 0 ≤ p ∧ p < m 247 1 ∧ 0 ≤ c ∧ c < 100 ∧ 0 ≤ h ∧ h ≤ 9999 ∧ 0 ≤ k ∧ k ≤ 9999
  · obtain ⟨p0, p1, c0, c1, h0, h9, k0, k9⟩ := h1
    obtain ⟨m1, a1, a2⟩ := L_reason (e := e) (d := d) hI hp hk c0 c1 h0 h9
    have hI1 := AS_Inv hI a2
    have en := AS_n a2
    obtain ⟨m2, b1, b2⟩ := M_whyI (e := e) (d := d) hI1 hp hk c0 c1 h0 h9
    rw [en] at b1
    have wb := whyS_b (N := m 247) (o := -1) (p := p) (g := deg (m 247) (mile (m 247) (-1) h) (strt (m 247) (-1) h) c) (h := h) (k := k) (by omega)
    generalize whyS (m 247) (-1) p (deg (m 247) (mile (m 247) (-1) h) (strt (m 247) (-1) h) c) h k = W at *
    refine ⟨if W = -3 then 1 else 0, m1, m2, ?_, ?_, Inv_ref hI1 b2⟩
    · by_cases z : W = -3
      · simp (disch := first | omega | (simp (disch := first | decide | omega) only [um_k, um_e, um_i, uz_k]; omega) | exact cat_i | exact cat_u | exact cat_r | assumption | exact rfl) only [b_156_0, b_156_9, b_157_0, b_157_44, hp, hh, hc, hk, hr _ _, a1, z, wr_of, ↓reduceIte, ck_T, lt_T, lt_F, le_T, le_F, eq_T, eq_F, and_true, true_and, and_false, false_and, or_true, true_or, or_false, false_or, and_self, or_self, not_true_eq_false, not_false_eq_true, implies_true, forall_const, true_implies, false_implies, ri_k, rn_k, rr_k, wr_bi, bi_e0, bi_e1, bi_T, bi_F, Classical.not_not, itp, itn, ck_t]
      · simp (disch := first | omega | (simp (disch := first | decide | omega) only [um_k, um_e, um_i, uz_k]; omega) | exact cat_i | exact cat_u | exact cat_r | assumption | exact rfl) only [b_156_0, b_156_9, b_157_0, b_157_44, hp, hh, hc, hk, hr _ _, a1, z, wr_of, ↓reduceIte, ck_T, lt_T, lt_F, le_T, le_F, eq_T, eq_F, and_true, true_and, and_false, false_and, or_true, true_or, or_false, false_or, and_self, or_self, not_true_eq_false, not_false_eq_true, implies_true, forall_const, true_implies, false_implies, ri_k, rn_k, rr_k, wr_bi, bi_e0, bi_e1, bi_T, bi_F, Classical.not_not, itp, itn, ck_t]
    · by_cases z : W = -3
      · simp (disch := first | omega | (simp (disch := first | decide | omega) only [um_k, um_e, um_i, uz_k]; omega) | exact cat_i | exact cat_u | exact cat_r | assumption | exact rfl) only [b_260_0, b_260_43, b_258_0, b_258_9, hp, hh, hc, hk, en, hr _ _, b1, z, wr_of, ↓reduceIte, ck_T, lt_T, lt_F, le_T, le_F, eq_T, eq_F, and_true, true_and, and_false, false_and, or_true, true_or, or_false, false_or, and_self, or_self, not_true_eq_false, not_false_eq_true, implies_true, forall_const, true_implies, false_implies, ri_k, rn_k, rr_k, wr_bi, bi_e0, bi_e1, bi_T, bi_F, Classical.not_not, itp, itn, ck_t]
      · simp (disch := first | omega | (simp (disch := first | decide | omega) only [um_k, um_e, um_i, uz_k]; omega) | exact cat_i | exact cat_u | exact cat_r | assumption | exact rfl) only [b_260_0, b_260_43, b_258_0, b_258_9, hp, hh, hc, hk, en, hr _ _, b1, z, wr_of, ↓reduceIte, ck_T, lt_T, lt_F, le_T, le_F, eq_T, eq_F, and_true, true_and, and_false, false_and, or_true, true_or, or_false, false_or, and_self, or_self, not_true_eq_false, not_false_eq_true, implies_true, forall_const, true_implies, false_implies, ri_k, rn_k, rr_k, wr_bi, bi_e0, bi_e1, bi_T, bi_F, Classical.not_not, itp, itn, ck_t]
  · refine Both.same hI (-1) ?_ ?_
    · simp (disch := first | omega | (simp (disch := first | decide | omega) only [um_k, um_e, um_i, uz_k]; omega) | exact cat_i | exact cat_u | exact cat_r | assumption | exact rfl) only [b_156_0, b_156_9, b_157_0, hp, hh, hc, hk, hr _ _, wr_of, ↓reduceIte, ck_T, lt_T, lt_F, le_T, le_F, eq_T, eq_F, and_true, true_and, and_false, false_and, or_true, true_or, or_false, false_or, and_self, or_self, not_true_eq_false, not_false_eq_true, implies_true, forall_const, true_implies, false_implies, ri_k, rn_k, rr_k, wr_bi, bi_e0, bi_e1, bi_T, bi_F, Classical.not_not, itp, itn, ck_t]
    · simp (disch := first | omega | (simp (disch := first | decide | omega) only [um_k, um_e, um_i, uz_k]; omega) | exact cat_i | exact cat_u | exact cat_r | assumption | exact rfl) only [b_260_0, hp, hh, hc, hk, hr _ _, wr_of, ↓reduceIte, ck_T, lt_T, lt_F, le_T, le_F, eq_T, eq_F, and_true, true_and, and_false, false_and, or_true, true_or, or_false, false_or, and_self, or_self, not_true_eq_false, not_false_eq_true, implies_true, forall_const, true_implies, false_implies, ri_k, rn_k, rr_k, wr_bi, bi_e0, bi_e1, bi_T, bi_F, Classical.not_not, itp, itn, ck_t]
end WY
