/-! take: the whole call. -/
section TF
variable {e : List Int32 × Value} {d : Nat} {m m0 : zMm} {N : Int → Int}
theorem M_take1 {p q : Int} {F : zMm} (hC : Core F (m 247)) (hr : Rng m) (R : RM m m) (ho : m 246 13 = -1) (hm : mil m (m 247 0) (mile (m 247) (-1) (m 247 0))) (hp : wr p = p) (hq : wr q = q) (p0 : 0 ≤ p) (p1 : p < m 247 1) (q0 : 0 ≤ q) (q1 : q < m 247 1) (hpq : ¬ p = q) (h2 : ¬ 5 ≤ m 247 (110 + 9 * q + 2)) (h3 : ¬ 5 ≤ m 247 (110 + 9 * p + 2)) (ht : m 247 5 < 16) : ∃ m2, Z e (d + 14) 274 0 [.ref 246, .int (iI (p)), .int (iI (q)), .retAddr 0, .retAddr 0, .retAddr 0, .retAddr 0, .retAddr 0, .retAddr 0, .retAddr 0] [] m = Z e (d + 14) 274 152 [.ref 246, .int (iI p), .int (iI q), .int (iI (m 247 5)), .int (iI (bi (swn (m 247) q))), .int (iI (bi (lwf (m 247) q))), .int (iI (m 247 (110 + 9 * q + 0))), .retAddr 0, .retAddr 0, .retAddr 0] [.int (iI (finL (m 247) q))] m2 ∧ RM m m2 := by
  have hC0 := hC
  obtain ⟨iN, iG, iP, iH, iS, iD, iT, iO, iU, iR, iV⟩ := hC
  have bN := iN
  unfold cNum at bN
  have y0 : wr (110 + 9 * q + 0) = 110 + 9 * q + 0 := wr_of (by omega) (by omega)
  have z0 : 0 ≤ 110 + 9 * q + 0 ∧ 110 + 9 * q + 0 < 2737 := by omega
  have y2 : wr (110 + 9 * q + 2) = 110 + 9 * q + 2 := wr_of (by omega) (by omega)
  have x2 : wr (110 + 9 * p + 2) = 110 + 9 * p + 2 := wr_of (by omega) (by omega)
  have pq := iP q q0 q1
  unfold pRow at pq
  have unl : ∀ m1 : zMm, RM m m1 → ¬ lwf (m 247) q → ∃ m2, Z e (d + 14) 274 101 [.ref 246, .int (iI p), .int (iI q), .int (iI (m 247 5)), .int (iI (bi (swn (m 247) q))), .retAddr 0, .retAddr 0, .retAddr 0, .retAddr 0, .retAddr 0] [.int (iI 0)] m1 = Z e (d + 14) 274 152 [.ref 246, .int (iI p), .int (iI q), .int (iI (m 247 5)), .int (iI (bi (swn (m 247) q))), .int (iI (bi (lwf (m 247) q))), .int (iI (m 247 (110 + 9 * q + 0))), .retAddr 0, .retAddr 0, .retAddr 0] [.int (iI (finL (m 247) q))] m2 ∧ RM m m2 := by
    intro m1 R1 nl
    obtain ⟨m2, a1, a2⟩ := M_cost (e := e) (d := d + 4) (p := q) (h := m 247 0) hC0 hr R1 bN.1.2.1 bN.1.2.2 q0 q1 hm
    obtain ⟨m3, b1, b2, _⟩ := M_degree (e := e) (d := d + 7) (c := m 247 (110 + 9 * q + 0)) (h := m 247 0) hC0 hr a2 (hr _ _) pq.2.1.1 pq.2.1.2 hm
    rw [ho] at a1 b1
    have g := deg_b (sB_of iN iS) (mi := mile (m 247) (-1) (m 247 0)) (st := strt (m 247) (-1) (m 247 0)) (c := m 247 (110 + 9 * q + 0))
    refine ⟨m3, ?_, b2⟩
    unfold finL fineS
    rw [cif_f nl, bi_f nl]
    rw [b_274_101, y0, ck_t z0, itn (by decide), R1.n, a1, ri_k, b_274_135, a2.n, b1, ri_k, b_274_148, wr_of (x := deg (m 247) (mile (m 247) (-1) (m 247 0)) (strt (m 247) (-1) (m 247 0)) (m 247 (110 + 9 * q + 0))) (by omega) (by omega), show wr 1 = 1 from rfl]
  by_cases sw : swn (m 247) q
  · obtain ⟨m2, a1, a2⟩ := unl m R (fun z => z.1 sw)
    refine ⟨m2, ?_, a2⟩
    rw [← a1, bi_t sw]
    rcases sw with z | z
    · simp (disch := first | omega | (simp (disch := first | decide | omega) only [um_k, um_e, um_i, uz_k]; omega) | exact cat_i | exact cat_u | exact cat_r | assumption | exact rfl) only [b_274_0, hp, hq, hr _ _, y2, x2, h2, h3, z, wr_of, ↓reduceIte, ck_T, lt_T, lt_F, le_T, le_F, eq_T, eq_F, and_true, true_and, and_false, false_and, or_true, true_or, or_false, false_or, and_self, or_self, not_true_eq_false, not_false_eq_true, implies_true, forall_const, true_implies, false_implies, ri_k, rn_k, rr_k, wr_bi, bi_e0, bi_e1, bi_T, bi_F, Classical.not_not, itp, itn, ck_t]
    · simp (disch := first | omega | (simp (disch := first | decide | omega) only [um_k, um_e, um_i, uz_k]; omega) | exact cat_i | exact cat_u | exact cat_r | assumption | exact rfl) only [b_274_0, hp, hq, hr _ _, y2, x2, h2, h3, z, wr_of, ↓reduceIte, ck_T, lt_T, lt_F, le_T, le_F, eq_T, eq_F, and_true, true_and, and_false, false_and, or_true, true_or, or_false, false_or, and_self, or_self, not_true_eq_false, not_false_eq_true, implies_true, forall_const, true_implies, false_implies, ri_k, rn_k, rr_k, wr_bi, bi_e0, bi_e1, bi_T, bi_F, Classical.not_not, itp, itn, ck_t]
  · have n2 : ¬ m 247 (110 + 9 * q + 2) = 2 := fun z => sw (Or.inl z)
    have n3 : ¬ m 247 (110 + 9 * q + 2) = 3 := fun z => sw (Or.inr z)
    obtain ⟨m1, c1, c2⟩ := M_safeNow (e := e) (d := d) (p := q) hC0 hr R q0 q1 hm
    rw [ho] at c1
    have start : Z e (d + 14) 274 0 [.ref 246, .int (iI (p)), .int (iI (q)), .retAddr 0, .retAddr 0, .retAddr 0, .retAddr 0, .retAddr 0, .retAddr 0, .retAddr 0] [] m = Z e (d + 14) 274 101 [.ref 246, .int (iI p), .int (iI q), .int (iI (m 247 5)), .int (iI 0), .retAddr 0, .retAddr 0, .retAddr 0, .retAddr 0, .retAddr 0] [.int (iI (if bi (sfN (m 247) (-1) (mile (m 247) (-1) (m 247 0)) q) = 0 then 1 else 0))] m1 := by
      rcases bi_01 (P := sfN (m 247) (-1) (mile (m 247) (-1) (m 247 0)) q) with w | w
      · rw [w] at c1 ⊢
        simp (disch := first | omega | (simp (disch := first | decide | omega) only [um_k, um_e, um_i, uz_k]; omega) | exact cat_i | exact cat_u | exact cat_r | assumption | exact rfl) only [b_274_0, b_274_93, hp, hq, hr _ _, y2, x2, h2, h3, n2, n3, c1, wr_of, ↓reduceIte, ck_T, lt_T, lt_F, le_T, le_F, eq_T, eq_F, and_true, true_and, and_false, false_and, or_true, true_or, or_false, false_or, and_self, or_self, not_true_eq_false, not_false_eq_true, implies_true, forall_const, true_implies, false_implies, ri_k, rn_k, rr_k, wr_bi, bi_e0, bi_e1, bi_T, bi_F, Classical.not_not, itp, itn, ck_t]
      · rw [w] at c1 ⊢
        simp (disch := first | omega | (simp (disch := first | decide | omega) only [um_k, um_e, um_i, uz_k]; omega) | exact cat_i | exact cat_u | exact cat_r | assumption | exact rfl) only [b_274_0, b_274_93, hp, hq, hr _ _, y2, x2, h2, h3, n2, n3, c1, wr_of, ↓reduceIte, ck_T, lt_T, lt_F, le_T, le_F, eq_T, eq_F, and_true, true_and, and_false, false_and, or_true, true_or, or_false, false_or, and_self, or_self, not_true_eq_false, not_false_eq_true, implies_true, forall_const, true_implies, false_implies, ri_k, rn_k, rr_k, wr_bi, bi_e0, bi_e1, bi_T, bi_F, Classical.not_not, itp, itn, ck_t]
    by_cases sf : sfN (m 247) (-1) (mile (m 247) (-1) (m 247 0)) q
    · obtain ⟨m2, a1, a2⟩ := unl m1 c2 (fun z => z.2 sf)
      refine ⟨m2, ?_, a2⟩
      rw [← a1, start, bi_f sw, bi_t sf, itn (by decide)]
    · refine ⟨m1, ?_, c2⟩
      have lf : lwf (m 247) q := ⟨sw, sf⟩
      unfold finL
      rw [start, bi_f sf, itp rfl, b_274_101, y0, ck_t z0, itp (by decide), c2.n, bi_f sw, bi_t lf, cif_t lf]
theorem tkC_wr {p q f l s x : Int} (hpq : ¬ p = q) : hp (tkC m p q f l s x) = hp (tkC m p q f l s (wr x)) := by
  refine hp_cgw (k := 5) (n := 288) hs_5 (fun k hk => ?_) (fun i => ?_)
  · unfold tkC
    simp (disch := first | omega | (simp (disch := first | decide | omega) only [um_k, um_e, um_i, uz_k]; omega) | exact cat_i | exact cat_u | exact cat_r | assumption | exact rfl) only [um_r]
  · unfold tkC
    by_cases h : i = p * 18 + 8
    · subst h
      simp (disch := first | omega | (simp (disch := first | decide | omega) only [um_k, um_e, um_i, uz_k]; omega) | exact cat_i | exact cat_u | exact cat_r | assumption | exact rfl) only [um_i, um_e, wr_wr]
    · by_cases h2 : i = q * 18 + 2
      · subst h2; simp (disch := first | omega | (simp (disch := first | decide | omega) only [um_k, um_e, um_i, uz_k]; omega) | exact cat_i | exact cat_u | exact cat_r | assumption | exact rfl) only [um_i, um_e]
      · by_cases h3 : i = q * 18 + 3
        · subst h3; simp (disch := first | omega | (simp (disch := first | decide | omega) only [um_k, um_e, um_i, uz_k]; omega) | exact cat_i | exact cat_u | exact cat_r | assumption | exact rfl) only [um_i, um_e]
        · by_cases h4 : i = q * 18 + 4
          · subst h4; simp (disch := first | omega | (simp (disch := first | decide | omega) only [um_k, um_e, um_i, uz_k]; omega) | exact cat_i | exact cat_u | exact cat_r | assumption | exact rfl) only [um_i, um_e]
          · simp (disch := first | omega | (simp (disch := first | decide | omega) only [um_k, um_e, um_i, uz_k]; omega) | exact cat_i | exact cat_u | exact cat_r | assumption | exact rfl) only [um_i]
theorem tkR_wr {p q f l s x : Int} (hn : 0 ≤ N 5 ∧ N 5 < 16) (hpq : ¬ p = q) (p0 : 0 ≤ p) (p1 : p < 16) (q0 : 0 ≤ q) (q1 : q < 16) : hp (tkR m N p q f l s x) = hp (tkR m N p q f l s (wr x)) := by
  refine hp_cgw (k := 247) (n := 2737) hs_247 (fun k hk => ?_) (fun i => ?_)
  · unfold tkR
    simp (disch := first | omega | (simp (disch := first | decide | omega) only [um_k, um_e, um_i, uz_k]; omega) | exact cat_i | exact cat_u | exact cat_r | assumption | exact rfl) only [um_r]
  · unfold tkR
    by_cases h : i = 110 + 9 * p + 8
    · subst h
      simp (disch := first | omega | (simp (disch := first | decide | omega) only [um_k, um_e, um_i, uz_k]; omega) | exact cat_i | exact cat_u | exact cat_r | assumption | exact rfl) only [um_i, um_e, wr_wr]
    · have key : ∀ (μ ν : zMm) (j y : Int), (wr (μ 247 i) = wr (ν 247 i)) → wr (um μ 247 j y 247 i) = wr (um ν 247 j y 247 i) := fun μ ν j y hh => by
        by_cases hj : i = j
        · rw [hj, um_s, um_s]
        · rw [um_i hj, um_i hj]; exact hh
      refine key _ _ _ _ (key _ _ _ _ (key _ _ _ _ ?_))
      rw [um_i h, um_i h]
theorem call_take {p q : Int} (hI : Inv m) (hp : wr p = p) (hq : wr q = q) : Both (Z e (d + 7) 165 0 [.ref 0, .int (iI (p)), .int (iI (q)), .retAddr 0, .retAddr 0, .retAddr 0, .retAddr 0] []) (Z e (d + 14) 274 0 [.ref 246, .int (iI (p)), .int (iI (q)), .retAddr 0, .retAddr 0, .retAddr 0, .retAddr 0, .retAddr 0, .retAddr 0, .retAddr 0] []) m := by
  obtain ⟨hr, ⟨iN, iG, iP, iH, iS, iD, iT, iO, iU, iR, iV⟩, iK, iL, iF, iB, iA, iW, iX⟩ := id hI
  have bN := iN
  unfold cNum at bN
  by_cases h1 : 0 ≤ p ∧ p < m 247 1 ∧ 0 ≤ q ∧ q < m 247 1 ∧ ¬ p = q
  · obtain ⟨p0, p1, q0, q1, hpq⟩ := h1
    have y2 : wr (110 + 9 * q + 2) = 110 + 9 * q + 2 := wr_of (by omega) (by omega)
    have x2 : wr (110 + 9 * p + 2) = 110 + 9 * p + 2 := wr_of (by omega) (by omega)
    by_cases h2 : 5 ≤ m 247 (110 + 9 * q + 2)
    · refine Both.same hI (-4) ?_ ?_
      · simp (disch := first | omega | (simp (disch := first | decide | omega) only [um_k, um_e, um_i, uz_k]; omega) | exact cat_i | exact cat_u | exact cat_r | assumption | exact rfl) only [b_165_0, b_165_31, hp, hq, hr _ _, W_isCaught hr iN iP q0 q1, bi_t h2, wr_of, ↓reduceIte, ck_T, lt_T, lt_F, le_T, le_F, eq_T, eq_F, and_true, true_and, and_false, false_and, or_true, true_or, or_false, false_or, and_self, or_self, not_true_eq_false, not_false_eq_true, implies_true, forall_const, true_implies, false_implies, ri_k, rn_k, rr_k, wr_bi, bi_e0, bi_e1, bi_T, bi_F, Classical.not_not, itp, itn, ck_t]
      · simp (disch := first | omega | (simp (disch := first | decide | omega) only [um_k, um_e, um_i, uz_k]; omega) | exact cat_i | exact cat_u | exact cat_r | assumption | exact rfl) only [b_274_0, hp, hq, hr _ _, y2, x2, h2, wr_of, ↓reduceIte, ck_T, lt_T, lt_F, le_T, le_F, eq_T, eq_F, and_true, true_and, and_false, false_and, or_true, true_or, or_false, false_or, and_self, or_self, not_true_eq_false, not_false_eq_true, implies_true, forall_const, true_implies, false_implies, ri_k, rn_k, rr_k, wr_bi, bi_e0, bi_e1, bi_T, bi_F, Classical.not_not, itp, itn, ck_t]
    · by_cases h3 : 5 ≤ m 247 (110 + 9 * p + 2)
      · refine Both.same hI (-4) ?_ ?_
        · simp (disch := first | omega | (simp (disch := first | decide | omega) only [um_k, um_e, um_i, uz_k]; omega) | exact cat_i | exact cat_u | exact cat_r | assumption | exact rfl) only [b_165_0, b_165_31, b_165_42, hp, hq, hr _ _, W_isCaught hr iN iP q0 q1, W_isCaught hr iN iP p0 p1, bi_f h2, bi_t h3, wr_of, ↓reduceIte, ck_T, lt_T, lt_F, le_T, le_F, eq_T, eq_F, and_true, true_and, and_false, false_and, or_true, true_or, or_false, false_or, and_self, or_self, not_true_eq_false, not_false_eq_true, implies_true, forall_const, true_implies, false_implies, ri_k, rn_k, rr_k, wr_bi, bi_e0, bi_e1, bi_T, bi_F, Classical.not_not, itp, itn, ck_t]
        · simp (disch := first | omega | (simp (disch := first | decide | omega) only [um_k, um_e, um_i, uz_k]; omega) | exact cat_i | exact cat_u | exact cat_r | assumption | exact rfl) only [b_274_0, hp, hq, hr _ _, y2, x2, h2, h3, wr_of, ↓reduceIte, ck_T, lt_T, lt_F, le_T, le_F, eq_T, eq_F, and_true, true_and, and_false, false_and, or_true, true_or, or_false, false_or, and_self, or_self, not_true_eq_false, not_false_eq_true, implies_true, forall_const, true_implies, false_implies, ri_k, rn_k, rr_k, wr_bi, bi_e0, bi_e1, bi_T, bi_F, Classical.not_not, itp, itn, ck_t]
      · by_cases ht : m 247 5 = 16
        · refine Both.same hI (-2) ?_ ?_
          · have n12 : m 12 3 = 16 := by omega
            simp (disch := first | omega | (simp (disch := first | decide | omega) only [um_k, um_e, um_i, uz_k]; omega) | exact cat_i | exact cat_u | exact cat_r | assumption | exact rfl) only [b_165_0, b_165_31, b_165_42, hp, hq, hr _ _, W_isCaught hr iN iP q0 q1, W_isCaught hr iN iP p0 p1, bi_f h2, bi_f h3, n12, show ((16 : Nat) : Int) = 16 from rfl, wr_of, ↓reduceIte, ck_T, lt_T, lt_F, le_T, le_F, eq_T, eq_F, and_true, true_and, and_false, false_and, or_true, true_or, or_false, false_or, and_self, or_self, not_true_eq_false, not_false_eq_true, implies_true, forall_const, true_implies, false_implies, ri_k, rn_k, rr_k, wr_bi, bi_e0, bi_e1, bi_T, bi_F, Classical.not_not, itp, itn, ck_t]
          · simp (disch := first | omega | (simp (disch := first | decide | omega) only [um_k, um_e, um_i, uz_k]; omega) | exact cat_i | exact cat_u | exact cat_r | assumption | exact rfl) only [b_274_0, hp, hq, hr _ _, y2, x2, h2, h3, ht, wr_of, ↓reduceIte, ck_T, lt_T, lt_F, le_T, le_F, eq_T, eq_F, and_true, true_and, and_false, false_and, or_true, true_or, or_false, false_or, and_self, or_self, not_true_eq_false, not_false_eq_true, implies_true, forall_const, true_implies, false_implies, ri_k, rn_k, rr_k, wr_bi, bi_e0, bi_e1, bi_T, bi_F, Classical.not_not, itp, itn, ck_t]
        · obtain ⟨mA, a1, a2⟩ := take_1 (e := e) (d := d) hI hp hq p0 p1 q0 q1 hpq h2 h3 (by omega)
          have hIA := AS_Inv hI a2
          have en := AS_n a2
          have bl := bi_01 (P := lwf (m 247) q)
          have bs := bi_01 (P := swn (m 247) q)
          have t2 := take_2 (e := e) (d := d) (m := mA) (p := p) (q := q) (f := finL (m 247) q) (l := bi (lwf (m 247) q)) (s := bi (swn (m 247) q)) hIA.1 hIA.2.1.1 hIA.2.1.2.2.1 p0 (by rw [en]; exact p1) q0 (by rw [en]; exact q1) (by rw [en]; omega) bl bs
          rw [en] at t2
          have fb := fineS_b (vB_of iN iV) (sB_of iN iS) (lB_of iV) (q := q)
          have wf : wr (finL (m 247) q) = finL (m 247) q := by
            unfold finL
            by_cases z : lwf (m 247) q
            · rw [cif_t z]; rfl
            · rw [cif_f z]; exact wr_of (by omega) (by omega)
          have hIF := Inv_take (p := p) (q := q) (f := finL (m 247) q) (l := bi (lwf (m 247) q)) (s := bi (swn (m 247) q)) (x := wr (m 247 (110 + 9 * p + 8) + finL (m 247) q)) hIA p0 (by rw [en]; exact p1) q0 (by rw [en]; exact q1) hpq (by rw [en]; omega) (by omega) (by omega) wf wr_wr
          rw [en] at hIF
          have nB : tkC mA p q (finL (m 247) q) (bi (lwf (m 247) q)) (bi (swn (m 247) q)) (wr (m 247 (110 + 9 * p + 8) + finL (m 247) q)) 247 = m 247 := by rw [tkC_k (by decide) (by decide) (by decide)]; exact en
          have oB : tkC mA p q (finL (m 247) q) (bi (lwf (m 247) q)) (bi (swn (m 247) q)) (wr (m 247 (110 + 9 * p + 8) + finL (m 247) q)) 246 = mA 246 := tkC_k (by decide) (by decide) (by decide)
          have qB : tkC mA p q (finL (m 247) q) (bi (lwf (m 247) q)) (bi (swn (m 247) q)) (wr (m 247 (110 + 9 * p + 8) + finL (m 247) q)) 254 = mA 254 := tkC_k (by decide) (by decide) (by decide)
          have rB : Rng (tkC mA p q (finL (m 247) q) (bi (lwf (m 247) q)) (bi (swn (m 247) q)) (wr (m 247 (110 + 9 * p + 8) + finL (m 247) q))) := by
            have w6 : wr (6 - bi (lwf (m 247) q)) = 6 - bi (lwf (m 247) q) := wr_of (by omega) (by omega)
            have wt : wr (mA 247 5 + 1) = mA 247 5 + 1 := by rw [en]; exact wr_of (by omega) (by omega)
            have rA := hIA.1
            unfold tkC
            repeat' (first | exact rA | exact hp | exact hq | exact wr_bi | exact w6 | exact wt | exact wf | exact wr_wr | exact rA _ _ | exact (rfl : wr (-3) = -3) | apply Rng.um | apply Rng.uz)
          have RB : RM (tkC mA p q (finL (m 247) q) (bi (lwf (m 247) q)) (bi (swn (m 247) q)) (wr (m 247 (110 + 9 * p + 8) + finL (m 247) q))) (tkC mA p q (finL (m 247) q) (bi (lwf (m 247) q)) (bi (swn (m 247) q)) (wr (m 247 (110 + 9 * p + 8) + finL (m 247) q))) := by
            refine ⟨rB, fun _ _ => rfl, fun _ _ => rfl, ?_⟩
            have q4 := (RM.refl hIA).2.2.2
            rw [en] at q4
            rw [oB, nB]
            unfold RefC at *
            rw [qB]
            exact q4
          have cwr := tkC_wr (m := mA) (p := p) (q := q) (f := finL (m 247) q) (l := bi (lwf (m 247) q)) (s := bi (swn (m 247) q)) (x := m 247 (110 + 9 * p + 8) + finL (m 247) q) hpq
          have milA := mil_of (h := m 247 0) hIA
          generalize hB : tkC mA p q (finL (m 247) q) (bi (lwf (m 247) q)) (bi (swn (m 247) q)) (wr (m 247 (110 + 9 * p + 8) + finL (m 247) q)) = B at *
          obtain ⟨m2, b1, b2⟩ := M_take1 (e := e) (d := d) (m := B) (p := p) (q := q) (F := m) (by rw [nB]; exact hI.2.1) rB RB (by rw [oB]; exact o_of hIA) (by unfold mil at milA ⊢; rw [nB, oB]; rw [en] at milA; exact milA) hp hq p0 (by rw [nB]; exact p1) q0 (by rw [nB]; exact q1) hpq (by rw [nB]; exact h2) (by rw [nB]; exact h3) (by rw [nB]; omega)
          rw [nB] at b1
          have n2 := b2.n
          rw [nB] at n2
          have t3 := take_3 (e := e) (d := d) (m := m2) (N := m 247) (p := p) (q := q) (f := finL (m 247) q) (l := bi (lwf (m 247) q)) (s := bi (swn (m 247) q)) n2 b2.1 (by omega) p0 p1 q0 q1 hpq (by omega) (by omega) bl bs
          have rwr := tkR_wr (m := m2) (N := m 247) (p := p) (q := q) (f := finL (m 247) q) (l := bi (lwf (m 247) q)) (s := bi (swn (m 247) q)) (x := m 247 (110 + 9 * p + 8) + finL (m 247) q) (by omega) hpq p0 (by omega) q0 (by omega)
          refine ⟨m 247 5, B, tkR m2 (m 247) p q (finL (m 247) q) (bi (lwf (m 247) q)) (bi (swn (m 247) q)) (wr (m 247 (110 + 9 * p + 8) + finL (m 247) q)), ?_, ?_, ?_⟩
          · rw [a1, t2]
            unfold ri
            rw [cwr]
          · rw [b1, t3]
            unfold ri
            rw [rwr]
          · refine Inv_ref hIF ?_
            have w6 : wr (6 - bi (lwf (m 247) q)) = 6 - bi (lwf (m 247) q) := wr_of (by omega) (by omega)
            have w1 : wr (1 - bi (swn (m 247) q)) = 1 - bi (swn (m 247) q) := wr_of (by omega) (by omega)
            have wt : wr (m 247 5 + 1) = m 247 5 + 1 := wr_of (by omega) (by omega)
            unfold tkR
            repeat' (first | exact b2 | exact hp | exact hq | exact wr_bi | exact w6 | exact w1 | exact wt | exact wf | exact wr_wr | exact hr _ _ | exact (rfl : wr (-3) = -3) | omega | apply RM.um247g)
  · refine Both.same hI (-1) ?_ ?_
    · simp (disch := first | omega | (simp (disch := first | decide | omega) only [um_k, um_e, um_i, uz_k]; omega) | exact cat_i | exact cat_u | exact cat_r | assumption | exact rfl) only [b_165_0, hp, hq, hr _ _, wr_of, ↓reduceIte, ck_T, lt_T, lt_F, le_T, le_F, eq_T, eq_F, and_true, true_and, and_false, false_and, or_true, true_or, or_false, false_or, and_self, or_self, not_true_eq_false, not_false_eq_true, implies_true, forall_const, true_implies, false_implies, ri_k, rn_k, rr_k, wr_bi, bi_e0, bi_e1, bi_T, bi_F, Classical.not_not, itp, itn, ck_t]
    · simp (disch := first | omega | (simp (disch := first | decide | omega) only [um_k, um_e, um_i, uz_k]; omega) | exact cat_i | exact cat_u | exact cat_r | assumption | exact rfl) only [b_274_0, hp, hq, hr _ _, wr_of, ↓reduceIte, ck_T, lt_T, lt_F, le_T, le_F, eq_T, eq_F, and_true, true_and, and_false, false_and, or_true, true_or, or_false, false_or, and_self, or_self, not_true_eq_false, not_false_eq_true, implies_true, forall_const, true_implies, false_implies, ri_k, rn_k, rr_k, wr_bi, bi_e0, bi_e1, bi_T, bi_F, Classical.not_not, itp, itn, ck_t]
end TF
