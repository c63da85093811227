/-! take. -/
section TE
variable {e : List Int32 × Value} {d : Nat} {m m0 : zMm} {N : Int → Int}
theorem costS_b (hB : vB N) (hl : ∀ v l, 0 ≤ v → v < N 3 → 0 ≤ l → l < N (266 + 44 * v + 3) → 0 ≤ ln N v l ∧ ln N v l ≤ 999) {o t g h : Int} : 0 ≤ costS N o t g h ∧ costS N o t g h ≤ 999 := by
  refine lnF_I (I := fun x : Int => 0 ≤ x ∧ x ≤ 999) hB (fun v l y h1 h2 h3 h4 h5 hy => ?_) (by decide)
  by_cases q : isC N o t g h v l
  · rw [cif_t q]; exact hl v l h1 h2 h3 h5
  · rw [cif_f q]; exact hy
/-- what one owes -/
noncomputable def fineS (N : Int → Int) (q : Int) : Int := costS N (-1) (latS N q (N 0)) (deg N (mile N (-1) (N 0)) (strt N (-1) (N 0)) (N (110 + 9 * q + 0))) (N 0) * (if deg N (mile N (-1) (N 0)) (strt N (-1) (N 0)) (N (110 + 9 * q + 0)) ≤ 1 then 1 else deg N (mile N (-1) (N 0)) (strt N (-1) (N 0)) (N (110 + 9 * q + 0)))
theorem fineS_b (hB : vB N) (hS : sB N) (hl : ∀ v l, 0 ≤ v → v < N 3 → 0 ≤ l → l < N (266 + 44 * v + 3) → 0 ≤ ln N v l ∧ ln N v l ≤ 999) {q : Int} : 0 ≤ fineS N q ∧ fineS N q ≤ 11988 := by
  unfold fineS
  have g := deg_b hS (mi := mile N (-1) (N 0)) (st := strt N (-1) (N 0)) (c := N (110 + 9 * q + 0))
  generalize deg N (mile N (-1) (N 0)) (strt N (-1) (N 0)) (N (110 + 9 * q + 0)) = D at *
  have c := costS_b hB hl (o := -1) (t := latS N q (N 0)) (g := D) (h := N 0)
  generalize costS N (-1) (latS N q (N 0)) D (N 0) = C at *
  have hx : 1 ≤ (if D ≤ 1 then (1 : Int) else D) ∧ (if D ≤ 1 then (1 : Int) else D) ≤ 12 := by split <;> omega
  generalize (if D ≤ 1 then (1 : Int) else D) = X at *
  constructor
  · exact Int.mul_nonneg c.1 (by omega)
  · calc C * X ≤ 999 * X := Int.mul_le_mul_of_nonneg_right c.2 (by omega)
      _ ≤ 11988 := by omega
theorem L_fine {q : Int} (hI : Inv m) (q0 : 0 ≤ q) (q1 : q < m 247 1) : ∃ m1, Z e (d + 6) 36 0 [.ref 202, .int (iI q), .retAddr 0] [] m = ri (fineS (m 247) q) m1 ∧ AS (m 247) (m 247 0) m m1 := by
  obtain ⟨hr, ⟨iN, iG, iP, iH, iS, iD, iT, iO, iU, iR, iV⟩, iK, iL, iF, iB, iA, iW, iX⟩ := id hI
  have bN := iN
  unfold cNum at bN
  obtain ⟨m1, a1, a2⟩ := asAt_ok (e := e) (d := d) (h := m 247 0) hI (hr _ _)
  have hI1 := AS_Inv hI a2
  have en := AS_n a2
  have X := AS_LX hI a2
  have f1 : ∀ k, ¬ (k = 193 ∨ (196 ≤ k ∧ k ≤ 205)) → m1 k = m k := a2.1
  have xc := X_cost (e := e) (d := d + 1) (p := q) X bN.1.2.1 bN.1.2.2 q0 (by rw [en]; exact q1)
  have pq := iP q q0 q1
  unfold pRow at pq
  have xd := X_degree (e := e) (d := d + 2) (c := m 247 (110 + 9 * q + 0)) X pq.2.1.1 pq.2.1.2
  rw [en] at xc xd
  have g := deg_b (sB_of iN iS) (mi := mile (m 247) (-1) (m 247 0)) (st := strt (m 247) (-1) (m 247 0)) (c := m 247 (110 + 9 * q + 0))
  have t0 := get_4 (e := e) (d := d + 5) (m := m1) (i := q) (j := 0) (by rw [f1 4 (by omega)]; omega) (by rw [f1 4 (by omega)]; omega) q0 (by rw [f1 4 (by omega)]; omega) (by decide) (by decide)
  rw [f1 5 (by omega), pq.1 0 (by decide) (by decide)] at t0
  refine ⟨m1, ?_, a2⟩
  unfold fineS
  rw [b_36_0, bN.1.1, b_34_0, a1, rn_k, xc, ri_k, b_36_12, t0, ri_k, b_36_28, xd, ri_k, b_36_31, wr_of (x := deg (m 247) (mile (m 247) (-1) (m 247 0)) (strt (m 247) (-1) (m 247 0)) (m 247 (110 + 9 * q + 0))) (by omega) (by omega), show wr 1 = 1 from rfl]
def swn (N : Int → Int) (q : Int) : Prop := N (110 + 9 * q + 2) = 2 ∨ N (110 + 9 * q + 2) = 3
def lwf (N : Int → Int) (q : Int) : Prop := ¬ swn N q ∧ ¬ sfN N (-1) (mile N (-1) (N 0)) q
noncomputable def finL (N : Int → Int) (q : Int) : Int := cif (lwf N q) 0 (fineS N q)
theorem AS_trans {h : Int} {m1 m2 : zMm} (a : AS (m 247) h m m1) (b : AS (m1 247) h m1 m2) : AS (m 247) h m m2 := by
  have en := AS_n a
  rw [en] at b
  exact ⟨fun k z => by rw [b.1 k z]; exact a.1 k z, b.2⟩
theorem take_1 {p q : Int} (hI : Inv m) (hp : wr p = p) (hq : wr q = q) (p0 : 0 ≤ p) (p1 : p < m 247 1) (q0 : 0 ≤ q) (q1 : q < m 247 1) (hpq : ¬ p = q) (h2 : ¬ 5 ≤ m 247 (110 + 9 * q + 2)) (h3 : ¬ 5 ≤ m 247 (110 + 9 * p + 2)) (ht : m 247 5 < 16) : ∃ mA, Z e (d + 7) 165 0 [.ref 0, .int (iI (p)), .int (iI (q)), .retAddr 0, .retAddr 0, .retAddr 0, .retAddr 0] [] m = Z e (d + 7) 165 133 [.ref 0, .int (iI p), .int (iI q), .int (iI (bi (swn (m 247) q))), .int (iI (bi (lwf (m 247) q))), .retAddr 0, .retAddr 0] [.int (iI (finL (m 247) q))] mA ∧ AS (m 247) (m 247 0) m mA := by
  obtain ⟨hr, ⟨iN, iG, iP, iH, iS, iD, iT, iO, iU, iR, iV⟩, iK, iL, iF, iB, iA, iW, iX⟩ := id hI
  have bN := iN
  unfold cNum at bN
  have s1 : Z e (d + 7) 165 0 [.ref 0, .int (iI (p)), .int (iI (q)), .retAddr 0, .retAddr 0, .retAddr 0, .retAddr 0] [] m = Z e (d + 7) 165 93 [.ref 0, .int (iI p), .int (iI q), .retAddr 0, .retAddr 0, .retAddr 0, .retAddr 0] [.int (iI (bi (swn (m 247) q)))] m := by
    by_cases c2 : m 247 (110 + 9 * q + 2) = 2
    · rw [bi_t (show swn (m 247) q from Or.inl c2)]
      simp (disch := first | omega | (simp (disch := first | decide | omega) only [um_k, um_e, um_i, uz_k]; omega) | exact cat_i | exact cat_u | exact cat_r | assumption | exact rfl) only [b_165_0, b_165_31, b_165_42, b_165_73, b_165_85, hp, hq, hr _ _, W_isCaught hr iN iP q0 q1, W_isCaught hr iN iP p0 p1, W_isIn hr iN iP q0 q1 (s := 2) rfl, h2, h3, c2, bi_T, bi_F, wr_of, ↓reduceIte, ck_T, lt_T, lt_F, le_T, le_F, eq_T, eq_F, and_true, true_and, and_false, false_and, or_true, true_or, or_false, false_or, and_self, or_self, not_true_eq_false, not_false_eq_true, implies_true, forall_const, true_implies, false_implies, ri_k, rn_k, rr_k, wr_bi, bi_e0, bi_e1, bi_T, bi_F, Classical.not_not, itp, itn, ck_t]
    · by_cases c3 : m 247 (110 + 9 * q + 2) = 3
      · rw [bi_t (show swn (m 247) q from Or.inr c3)]
        simp (disch := first | omega | (simp (disch := first | decide | omega) only [um_k, um_e, um_i, uz_k]; omega) | exact cat_i | exact cat_u | exact cat_r | assumption | exact rfl) only [b_165_0, b_165_31, b_165_42, b_165_73, b_165_85, hp, hq, hr _ _, W_isCaught hr iN iP q0 q1, W_isCaught hr iN iP p0 p1, W_isIn hr iN iP q0 q1 (s := 2) rfl, W_isIn hr iN iP q0 q1 (s := 3) rfl, h2, h3, c2, c3, bi_T, bi_F, wr_of, ↓reduceIte, ck_T, lt_T, lt_F, le_T, le_F, eq_T, eq_F, and_true, true_and, and_false, false_and, or_true, true_or, or_false, false_or, and_self, or_self, not_true_eq_false, not_false_eq_true, implies_true, forall_const, true_implies, false_implies, ri_k, rn_k, rr_k, wr_bi, bi_e0, bi_e1, bi_T, bi_F, Classical.not_not, itp, itn, ck_t]
      · rw [bi_f (show ¬ swn (m 247) q from fun z => z.elim c2 c3)]
        simp (disch := first | omega | (simp (disch := first | decide | omega) only [um_k, um_e, um_i, uz_k]; omega) | exact cat_i | exact cat_u | exact cat_r | assumption | exact rfl) only [b_165_0, b_165_31, b_165_42, b_165_73, b_165_85, hp, hq, hr _ _, W_isCaught hr iN iP q0 q1, W_isCaught hr iN iP p0 p1, W_isIn hr iN iP q0 q1 (s := 2) rfl, W_isIn hr iN iP q0 q1 (s := 3) rfl, h2, h3, c2, c3, bi_T, bi_F, wr_of, ↓reduceIte, ck_T, lt_T, lt_F, le_T, le_F, eq_T, eq_F, and_true, true_and, and_false, false_and, or_true, true_or, or_false, false_or, and_self, or_self, not_true_eq_false, not_false_eq_true, implies_true, forall_const, true_implies, false_implies, ri_k, rn_k, rr_k, wr_bi, bi_e0, bi_e1, bi_T, bi_F, Classical.not_not, itp, itn, ck_t]
  by_cases sw : swn (m 247) q
  · obtain ⟨mA, a1, a2⟩ := L_fine (e := e) (d := d) hI q0 q1
    refine ⟨mA, ?_, a2⟩
    rw [s1, b_165_93, wr_bi, bi_t sw, itn (by decide), b_165_114, itn (by decide), a1, ri_k, bi_f (fun z => z.1 sw)]
    unfold finL
    rw [cif_f (fun z => z.1 sw)]
  · obtain ⟨m1, a1, a2⟩ := L_safeNow (e := e) (d := d) hI q0 q1
    have en := AS_n a2
    by_cases sf : sfN (m 247) (-1) (mile (m 247) (-1) (m 247 0)) q
    · obtain ⟨mA, b1, b2⟩ := L_fine (e := e) (d := d) (AS_Inv hI a2) q0 (by rw [en]; exact q1)
      rw [en] at b1
      have b2' := b2
      rw [show m1 247 0 = m 247 0 by rw [en]] at b2'
      refine ⟨mA, ?_, AS_trans a2 b2'⟩
      rw [s1, b_165_93, wr_bi, bi_f sw, itp rfl, a1, ri_k, b_165_106, wr_bi, bi_t sf, itn (by decide), b_165_114, itn (by decide), b1, ri_k, bi_f (fun z => z.2 sf)]
      unfold finL
      rw [cif_f (fun z => z.2 sf)]
    · refine ⟨m1, ?_, a2⟩
      rw [s1, b_165_93, wr_bi, bi_f sw, itp rfl, a1, ri_k, b_165_106, wr_bi, bi_f sf, itp rfl, b_165_114, itp (by decide), bi_t ⟨sw, sf⟩]
      unfold finL
      rw [cif_t ⟨sw, sf⟩]
theorem take_2 {p q f l s : Int} (hr : Rng m) (iN : cNum m (m 247)) (iP : cPpl m (m 247)) (p0 : 0 ≤ p) (p1 : p < m 247 1) (q0 : 0 ≤ q) (q1 : q < m 247 1) (ht : m 247 5 < 16) (hl : l = 0 ∨ l = 1) (hs : s = 0 ∨ s = 1) : Z e (d + 7) 165 133 [.ref 0, .int (iI p), .int (iI q), .int (iI s), .int (iI l), .retAddr 0, .retAddr 0] [.int (iI f)] m = ri (m 247 5) (tkC m p q f l s (m 247 (110 + 9 * p + 8) + f)) := by
  have bN := iN
  unfold cNum at bN
  have pp := (iP p p0 p1).1 8 (by decide) (by decide)
  have pq := (iP q q0 q1).1 0 (by decide) (by decide)
  have n12 : m 12 3 = m 247 5 := bN.2.2.2.2.2.1.1
  have n4 : m 4 3 = m 247 1 := bN.2.1.1
  have n0 : m 1 0 = m 247 0 := bN.1.1
  have S12 : ∀ (D : Nat) (μ : zMm) (j x : Int), m 247 5 < μ 12 3 → μ 12 3 < m 247 5 + 2 → 0 ≤ j → j < 7 → Z e D 105 0 [.ref 12, .int (iI (m 247 5)), .int (iI j), .int (iI x)] [] μ = rn (um μ 13 (m 247 5 * 7 + j) x) := fun D μ j x h0 h00 h1 h2 => set_12 (by omega) (by omega) (by omega) (by omega) h1 h2
  have S4 : ∀ (D : Nat) (μ : zMm) (i j x : Int), μ 4 3 = m 247 1 → 0 ≤ i → i < m 247 1 → 0 ≤ j → j < 18 → Z e D 105 0 [.ref 4, .int (iI i), .int (iI j), .int (iI x)] [] μ = rn (um μ 5 (i * 18 + j) x) := fun D μ i j x h0 h1 h2 h3 h4 => set_4 (by omega) (by omega) h1 (by omega) h3 h4
  have G4 : ∀ (D : Nat) (μ : zMm) (i j : Int), μ 4 3 = m 247 1 → 0 ≤ i → i < m 247 1 → 0 ≤ j → j < 18 → Z e D 104 0 [.ref 4, .int (iI i), .int (iI j)] [] μ = ri (μ 5 (i * 18 + j)) μ := fun D μ i j h0 h1 h2 h3 h4 => get_4 (by omega) (by omega) h1 (by omega) h3 h4
  have A12 : ∀ (D : Nat), Z e D 106 0 [.ref 12, .retAddr 0] [] m = ri (m 247 5) (um (uz m 13 (m 247 5 * 7) 7) 12 3 (m 247 5 + 1)) := fun D => by
    have := add_12 (e := e) (d := D) (m := m) (by omega) (by omega)
    rw [n12] at this
    exact this
  unfold tkC
  rcases hl with z | z <;> subst z <;> rcases hs with w | w <;> subst w <;> simp (disch := first | omega | (simp (disch := first | decide | omega) only [um_k, um_e, um_i, uz_k]; omega) | exact cat_i | exact cat_u | exact cat_r | assumption | exact rfl) only [b_165_133, b_165_144, b_165_161, b_165_184, b_165_207, b_165_230, b_165_236, b_165_255, b_165_269, b_126_0, b_126_7, b_126_18, b_126_28, b_126_41, b_126_56, b_126_59, b_129_0, b_129_10, b_129_23, A12, S12, S4, G4, n12, n4, n0, pp, pq, um_k, um_i, uz_k, Int.reduceSub, wr_of, ↓reduceIte, ck_T, lt_T, lt_F, le_T, le_F, eq_T, eq_F, and_true, true_and, and_false, false_and, or_true, true_or, or_false, false_or, and_self, or_self, not_true_eq_false, not_false_eq_true, implies_true, forall_const, true_implies, false_implies, ri_k, rn_k, rr_k, wr_bi, bi_e0, bi_e1, bi_T, bi_F, Classical.not_not, itp, itn, ck_t]
theorem RM.um247g {i x : Int} (hi : ¬ (i = 2 ∨ (10 ≤ i ∧ i < 110) ∨ (254 ≤ i ∧ i < 266))) (R : RM m0 m) (hx : wr x = x) : RM (um m0 247 i x) (um m 247 i x) := by
  have rn := R.n
  obtain ⟨r1, r2, r3, r4⟩ := R
  have hz : nw (um m0 247 i x 247) = nw (m0 247) := nw_cg (fun j hj => um_i (by omega)) (fun j _ _ => by rw [um_i (by omega)])
  refine ⟨r1.um hx, fun k hk => ?_, fun j hj => by rw [um_k (by decide), um_k (by decide)]; exact r3 j hj, ?_⟩
  · by_cases z : k = 247
    · rw [z, um_up, um_up, rn]
    · rw [um_r z, um_r z]; exact r2 k hk
  · rw [um_k (by decide), hz]
    unfold RefC at *
    rw [um_r (by decide)]
    exact r4
theorem take_3 {p q f l s : Int} (hn : m 247 = N) (hr : Rng m) (b1 : 0 ≤ N 1 ∧ N 1 ≤ 16) (p0 : 0 ≤ p) (p1 : p < N 1) (q0 : 0 ≤ q) (q1 : q < N 1) (hpq : ¬ p = q) (t0 : 0 ≤ N 5) (ht : N 5 < 16) (hl : l = 0 ∨ l = 1) (hs : s = 0 ∨ s = 1) : Z e (d + 14) 274 152 [.ref 246, .int (iI p), .int (iI q), .int (iI (N 5)), .int (iI s), .int (iI l), .int (iI (N (110 + 9 * q + 0))), .retAddr 0, .retAddr 0, .retAddr 0] [.int (iI f)] m = ri (N 5) (tkR m N p q f l s (N (110 + 9 * p + 8) + f)) := by
  have y0 : wr (938 + 7 * N 5) = 938 + 7 * N 5 := wr_of (by omega) (by omega)
  have y1 : wr (938 + 7 * N 5 + 1) = 938 + 7 * N 5 + 1 := wr_of (by omega) (by omega)
  have y2 : wr (938 + 7 * N 5 + 2) = 938 + 7 * N 5 + 2 := wr_of (by omega) (by omega)
  have y3 : wr (938 + 7 * N 5 + 3) = 938 + 7 * N 5 + 3 := wr_of (by omega) (by omega)
  have y4 : wr (938 + 7 * N 5 + 4) = 938 + 7 * N 5 + 4 := wr_of (by omega) (by omega)
  have y5 : wr (938 + 7 * N 5 + 5) = 938 + 7 * N 5 + 5 := wr_of (by omega) (by omega)
  have y6 : wr (938 + 7 * N 5 + 6) = 938 + 7 * N 5 + 6 := wr_of (by omega) (by omega)
  have z8 : wr (110 + 9 * p + 8) = 110 + 9 * p + 8 := wr_of (by omega) (by omega)
  have z4 : wr (110 + 9 * q + 4) = 110 + 9 * q + 4 := wr_of (by omega) (by omega)
  have z2 : wr (110 + 9 * q + 2) = 110 + 9 * q + 2 := wr_of (by omega) (by omega)
  have z3 : wr (110 + 9 * q + 3) = 110 + 9 * q + 3 := wr_of (by omega) (by omega)
  unfold tkR
  rcases hl with z | z <;> subst z <;> rcases hs with w | w <;> subst w <;> simp (disch := first | omega | (simp (disch := first | decide | omega) only [um_k, um_e, um_i, uz_k]; omega) | exact cat_i | exact cat_u | exact cat_r | assumption | exact rfl) only [b_274_152, y0, y1, y2, y3, y4, y5, y6, z8, z4, z2, z3, um_i, hn, Int.reduceSub, wr_of, ↓reduceIte, ck_T, lt_T, lt_F, le_T, le_F, eq_T, eq_F, and_true, true_and, and_false, false_and, or_true, true_or, or_false, false_or, and_self, or_self, not_true_eq_false, not_false_eq_true, implies_true, forall_const, true_implies, false_implies, ri_k, rn_k, rr_k, wr_bi, bi_e0, bi_e1, bi_T, bi_F, Classical.not_not, itp, itn, ck_t]
end TE
