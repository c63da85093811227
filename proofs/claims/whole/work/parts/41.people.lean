/-! People: small calls. -/
section PP
variable {e : List Int32 × Value} {d : Nat} {m m2 : zMm}
theorem Inv_ppl (hI : Inv m) (hr2 : Rng m2) (hF : ∀ k, ¬ k = 5 → ¬ k = 247 → m2 k = m k) (hN : ∀ i, i < 110 ∨ 254 ≤ i → m2 247 i = m 247 i) (hH : ∀ p b, 0 ≤ p → 0 ≤ b → b < 8 → m2 5 (p * 18 + (10 + b)) = m 5 (p * 18 + (10 + b))) (hrow : ∀ p, 0 ≤ p → p < m 247 1 → pRow m2 (m2 247) p) : Inv m2 := by
  obtain ⟨hr, ⟨iN, iG, iP, iH, iS, iD, iT, iO, iU, iR, iV⟩, iK, iL, iF, iB, iA, iW, iX⟩ := id hI
  have bN := iN
  unfold cNum at bN
  have e0 := hN 0 (by decide)
  have e1 := hN 1 (by decide)
  have hz : nz (m2 247) = nz (m 247) := nz_cg (fun i hi => hN i (by omega)) (fun i _ _ => by rw [hN i (by omega)])
  have hz2 : nw (m2 247) = nw (m 247) := nw_cg (fun i hi => hN i (by omega)) (fun i _ _ => by rw [hN i (by omega)])
  have f : ∀ k, k ≠ 5 → k ≠ 247 → m2 k = m k := hF
  refine ⟨hr2, ⟨cNum_cg (f 1 (by decide) (by decide)) (f 4 (by decide) (by decide)) (f 6 (by decide) (by decide)) (f 8 (by decide) (by decide)) (f 12 (by decide) (by decide)) (f 14 (by decide) (by decide)) (f 16 (by decide) (by decide)) (f 10 (by decide) (by decide)) (fun i _ _ => hN i (by omega)) iN, cGnd_cg (f 2 (by decide) (by decide)) (fun i _ _ => hN i (by omega)) iG, fun p g1 g2 => hrow p g1 (by omega), fun p g1 g2 => hRow_cg (fun b g3 g4 => hH p b g1 g3 g4) (by omega) (hN 7 (by decide)) (fun b _ _ => hN _ (by omega)) (iH p g1 (by omega)), cSto_cg (f 7 (by decide) (by decide)) (hN 2 (by decide)) (by omega) (fun i _ _ => hN i (by omega)) iS, cDee_cg (f 9 (by decide) (by decide)) (by omega) (by omega) (hN 4 (by decide)) (by omega) (fun i _ _ => hN i (by omega)) iD, cTak_cg (f 13 (by decide) (by decide)) (by omega) (by omega) (hN 5 (by decide)) (by omega) (fun i _ _ => hN i (by omega)) iT, cPos_cg (f 15 (by decide) (by decide)) (hN 6 (by decide)) (by omega) (fun i _ _ => hN i (by omega)) iO, cSig_cg (f 17 (by decide) (by decide)) (hN 8 (by decide)) (by omega) (fun i _ _ => hN i (by omega)) iU, cPor_cg (f 11 (by decide) (by decide)) (fun i _ _ => hN i (by omega)) iR, cVer_cg (fun k _ _ => f k (by omega) (by omega)) (by omega) (hN 3 (by decide)) (by omega) (fun i _ _ => hN i (by omega)) (fun i _ _ => hN i (by omega)) iV⟩, Kept_cg (by rw [f 0 (by decide) (by decide)]) (by rw [f 246 (by decide) (by decide)]) (fun k _ _ => f k (by omega) (by omega)) (f 248 (by decide) (by decide)) iK, LawOK_cg (f 202 (by decide) (by decide)) (f 204 (by decide) (by decide)) (f 205 (by decide) (by decide)) (fun k _ _ => f k (by omega) (by omega)) (by omega) hz iL, RefOK_cg (by rw [f 246 (by decide) (by decide)]) (by rw [f 246 (by decide) (by decide)]) (by rw [f 246 (by decide) (by decide)]) (f 254 (by decide) (by decide)) hz2 iF, beside_cg (f 192 (by decide) (by decide)) iB, Tape_cg (by rw [f 179 (by decide) (by decide)]) (by rw [f 246 (by decide) (by decide)]) (f 180 (by decide) (by decide)) (f 249 (by decide) (by decide)) iA, Rows_cg (by rw [f 230 (by decide) (by decide)]) (by rw [f 246 (by decide) (by decide)]) (by rw [f 246 (by decide) (by decide)]) (by rw [f 226 (by decide) (by decide)]) (by rw [f 232 (by decide) (by decide)]) (f 231 (by decide) (by decide)) (f 250 (by decide) (by decide)) (f 233 (by decide) (by decide)) (f 251 (by decide) (by decide)) iW, Host_cg (fun k _ _ => f k (by omega) (by omega)) (by rw [f 234 (by decide) (by decide)]) (by rw [f 246 (by decide) (by decide)]) (fun k _ _ => f k (by omega) (by omega)) iX⟩
theorem W_isIn {p s : Int} (hr : Rng m) (iN : cNum m (m 247)) (iP : cPpl m (m 247)) (h0 : 0 ≤ p) (h1 : p < m 247 1) (hs : wr s = s) : Z e (d + 1) 127 0 [.ref 1, .int (iI (p)), .int (iI (s))] [] m = ri (bi (m 247 (110 + 9 * p + 2) = s)) m := by
  have bN := iN
  unfold cNum at bN
  have q := (iP p h0 h1).1 2 (by decide) (by decide)
  simp (disch := first | omega | (simp (disch := first | decide | omega) only [um_k, um_e, um_i, uz_k]; omega) | exact cat_i | exact cat_u | exact cat_r | assumption | exact rfl) only [b_127_0, b_127_9, get_4, q, hr _ _, hs, bi_if, wr_of, ↓reduceIte, ck_T, lt_T, lt_F, le_T, le_F, eq_T, eq_F, and_true, true_and, and_false, false_and, or_true, true_or, or_false, false_or, and_self, or_self, not_true_eq_false, not_false_eq_true, implies_true, forall_const, true_implies, false_implies, ri_k, rn_k, rr_k, wr_bi, bi_e0, bi_e1, bi_T, bi_F, Classical.not_not, itp, itn, ck_t]
theorem W_isCaught {p : Int} (hr : Rng m) (iN : cNum m (m 247)) (iP : cPpl m (m 247)) (h0 : 0 ≤ p) (h1 : p < m 247 1) : Z e (d + 2) 128 0 [.ref 1, .int (iI (p))] [] m = ri (bi (5 ≤ m 247 (110 + 9 * p + 2))) m := by
  have bN := iN
  unfold cNum at bN
  have q := (iP p h0 h1).2.2.2.1
  simp (disch := first | omega | (simp (disch := first | decide | omega) only [um_k, um_e, um_i, uz_k]; omega) | exact cat_i | exact cat_u | exact cat_r | assumption | exact rfl) only [b_128_0, b_128_6, b_128_16, W_isIn hr iN iP h0 h1 (s := 5) rfl, W_isIn hr iN iP h0 h1 (s := 6) rfl, wr_bi, bi_e0, bi_if, wr_of, ↓reduceIte, ck_T, lt_T, lt_F, le_T, le_F, eq_T, eq_F, and_true, true_and, and_false, false_and, or_true, true_or, or_false, false_or, and_self, or_self, not_true_eq_false, not_false_eq_true, implies_true, forall_const, true_implies, false_implies, ri_k, rn_k, rr_k, wr_bi, bi_e0, bi_e1, bi_T, bi_F, Classical.not_not, itp, itn, ck_t]
  by_cases h5 : m 247 (110 + 9 * p + 2) = 5
  · rw [itn (by omega), bi_t (by omega)]
  · rw [itp h5]
    congr 1
    exact bi_cg (by omega)
theorem W_become {p s : Int} (iN : cNum m (m 247)) (h0 : 0 ≤ p) (h1 : p < m 247 1) : Z e (d + 1) 129 0 [.ref 1, .int (iI (p)), .int (iI (s))] [] m = rn (um (um m 5 (p * 18 + 2) s) 5 (p * 18 + 3) (m 247 0)) := by
  have bN := iN
  unfold cNum at bN
  simp (disch := first | omega | (simp (disch := first | decide | omega) only [um_k, um_e, um_i, uz_k]; omega) | exact cat_i | exact cat_u | exact cat_r | assumption | exact rfl) only [b_129_0, b_129_10, b_129_23, set_4, um_k, wr_of, ↓reduceIte, ck_T, lt_T, lt_F, le_T, le_F, eq_T, eq_F, and_true, true_and, and_false, false_and, or_true, true_or, or_false, false_or, and_self, or_self, not_true_eq_false, not_false_eq_true, implies_true, forall_const, true_implies, false_implies, ri_k, rn_k, rr_k, wr_bi, bi_e0, bi_e1, bi_T, bi_F, Classical.not_not, itp, itn, ck_t]
  rw [bN.1.1]
/-- deeds of a person -/
noncomputable def dcn (N : Int → Int) (p : Int) : Int := itr (fun q n => n + bi (N (794 + 6 * q + 0) = p)) 0 (N 4).toNat 0
theorem W_deedsOf {p : Int} (hr : Rng m) (iN : cNum m (m 247)) (iD : cDee m (m 247)) (hp : wr p = p) : Z e (d + 1) 130 0 [.ref 1, .int (iI (p)), .retAddr 0, .retAddr 0] [] m = ri (dcn (m 247) p) m := by
  have bN := iN
  unfold cNum at bN
  rw [b_130_0, lp0 (F := fun i y => Z e (d + 1) 130 4 [.ref 1, .int (iI (p)), .int (iI (y)), .int (iI (i))] [] m) (f := fun q n => n + bi (m 247 (794 + 6 * q + 0) = p)) (n := m 247 4) (by omega)]
  · refine (b_130_4).trans ?_
    simp (disch := first | omega | (simp (disch := first | decide | omega) only [um_k, um_e, um_i, uz_k]; omega) | exact cat_i | exact cat_u | exact cat_r | assumption | exact rfl) only [hr _ _, wr_of, ↓reduceIte, ck_T, lt_T, lt_F, le_T, le_F, eq_T, eq_F, and_true, true_and, and_false, false_and, or_true, true_or, or_false, false_or, and_self, or_self, not_true_eq_false, not_false_eq_true, implies_true, forall_const, true_implies, false_implies, ri_k, rn_k, rr_k, wr_bi, bi_e0, bi_e1, bi_T, bi_F, Classical.not_not, itp, itn, ck_t]
    rfl
  · intro i y g1 g2
    refine (b_130_4).trans ?_
    have q := (iD i g1 g2).1 0 (by decide) (by decide)
    simp (disch := first | omega | (simp (disch := first | decide | omega) only [um_k, um_e, um_i, uz_k]; omega) | exact cat_i | exact cat_u | exact cat_r | assumption | exact rfl) only [b_130_24, get_8, hp, hr _ _, q, wr_of, ↓reduceIte, ck_T, lt_T, lt_F, le_T, le_F, eq_T, eq_F, and_true, true_and, and_false, false_and, or_true, true_or, or_false, false_or, and_self, or_self, not_true_eq_false, not_false_eq_true, implies_true, forall_const, true_implies, false_implies, ri_k, rn_k, rr_k, wr_bi, bi_e0, bi_e1, bi_T, bi_F, Classical.not_not, itp, itn, ck_t]
    congr 3
    by_cases h : m 247 (794 + 6 * i + 0) = p
    · rw [bi_t h, itp (by simpa using h)]
    · rw [bi_f h, itn (by simpa using h), Int.add_zero]
theorem M_personOf {p w : Int} (hr : Rng m) (iN : cNum m (m 247)) (hp : wr p = p) (hw : wr w = w) (h0 : 0 ≤ p) (h1 : p < m 247 1) (h2 : 0 ≤ w) (h3 : w ≤ 9) : Z e (d + 2) 216 0 [.ref 246, .int (iI (p)), .int (iI (w)), .retAddr 0, .retAddr 0] [] m = ri (if w = 9 then dcn (m 247) p else m 247 (110 + 9 * p + w)) m := by
  have bN := iN
  unfold cNum at bN
  by_cases h9 : w = 9
  · rw [itp h9, b_216_0]
    simp (disch := first | omega | (simp (disch := first | decide | omega) only [um_k, um_e, um_i, uz_k]; omega) | exact cat_i | exact cat_u | exact cat_r | assumption | exact rfl) only [hp, hw, hr _ _, wr_of, ↓reduceIte, ck_T, lt_T, lt_F, le_T, le_F, eq_T, eq_F, and_true, true_and, and_false, false_and, or_true, true_or, or_false, false_or, and_self, or_self, not_true_eq_false, not_false_eq_true, implies_true, forall_const, true_implies, false_implies, ri_k, rn_k, rr_k, wr_bi, bi_e0, bi_e1, bi_T, bi_F, Classical.not_not, itp, itn, ck_t]
    rw [lp0 (F := fun i y => Z e (d + 2) 216 42 [.ref 246, .int (iI (p)), .int (iI w), .int (iI (y)), .int (iI (i))] [] m) (f := fun q n => n + bi (m 247 (794 + 6 * q + 0) = p)) (n := m 247 4) (by omega)]
    · refine (b_216_42 cat_i).trans ?_
      simp (disch := first | omega | (simp (disch := first | decide | omega) only [um_k, um_e, um_i, uz_k]; omega) | exact cat_i | exact cat_u | exact cat_r | assumption | exact rfl) only [hr _ _, wr_of, ↓reduceIte, ck_T, lt_T, lt_F, le_T, le_F, eq_T, eq_F, and_true, true_and, and_false, false_and, or_true, true_or, or_false, false_or, and_self, or_self, not_true_eq_false, not_false_eq_true, implies_true, forall_const, true_implies, false_implies, ri_k, rn_k, rr_k, wr_bi, bi_e0, bi_e1, bi_T, bi_F, Classical.not_not, itp, itn, ck_t]
      rfl
    · intro i y g1 g2
      refine (b_216_42 cat_i).trans ?_
      simp (disch := first | omega | (simp (disch := first | decide | omega) only [um_k, um_e, um_i, uz_k]; omega) | exact cat_i | exact cat_u | exact cat_r | assumption | exact rfl) only [hr _ _, hp, bi_if, wr_of, ↓reduceIte, ck_T, lt_T, lt_F, le_T, le_F, eq_T, eq_F, and_true, true_and, and_false, false_and, or_true, true_or, or_false, false_or, and_self, or_self, not_true_eq_false, not_false_eq_true, implies_true, forall_const, true_implies, false_implies, ri_k, rn_k, rr_k, wr_bi, bi_e0, bi_e1, bi_T, bi_F, Classical.not_not, itp, itn, ck_t]
  · rw [itn h9, b_216_0]
    simp (disch := first | omega | (simp (disch := first | decide | omega) only [um_k, um_e, um_i, uz_k]; omega) | exact cat_i | exact cat_u | exact cat_r | assumption | exact rfl) only [hp, hw, hr _ _, wr_of, ↓reduceIte, ck_T, lt_T, lt_F, le_T, le_F, eq_T, eq_F, and_true, true_and, and_false, false_and, or_true, true_or, or_false, false_or, and_self, or_self, not_true_eq_false, not_false_eq_true, implies_true, forall_const, true_implies, false_implies, ri_k, rn_k, rr_k, wr_bi, bi_e0, bi_e1, bi_T, bi_F, Classical.not_not, itp, itn, ck_t]
theorem call_personOf {p w : Int} (hI : Inv m) (hp : wr p = p) (hw : wr w = w) : Both (Z e (d + 2) 144 0 [.ref 0, .int (iI (p)), .int (iI (w))] []) (Z e (d + 2) 216 0 [.ref 246, .int (iI (p)), .int (iI (w)), .retAddr 0, .retAddr 0] []) m := by
  obtain ⟨hr, ⟨iN, iG, iP, iH, iS, iD, iT, iO, iU, iR, iV⟩, iK, iL, iF, iB, iA, iW, iX⟩ := id hI
  have bN := iN
  unfold cNum at bN
  by_cases h1 : 0 ≤ p ∧ p < m 247 1 ∧ 0 ≤ w ∧ w ≤ 9
  · refine Both.same hI (if w = 9 then dcn (m 247) p else m 247 (110 + 9 * p + w)) ?_ (M_personOf hr iN hp hw h1.1 h1.2.1 h1.2.2.1 h1.2.2.2)
    by_cases h9 : w = 9
    · rw [itp h9]
      simp (disch := first | omega | (simp (disch := first | decide | omega) only [um_k, um_e, um_i, uz_k]; omega) | exact cat_i | exact cat_u | exact cat_r | assumption | exact rfl) only [b_144_0, b_144_34, b_144_49, hp, hw, hr _ _, W_deedsOf hr iN iD hp, wr_of, ↓reduceIte, ck_T, lt_T, lt_F, le_T, le_F, eq_T, eq_F, and_true, true_and, and_false, false_and, or_true, true_or, or_false, false_or, and_self, or_self, not_true_eq_false, not_false_eq_true, implies_true, forall_const, true_implies, false_implies, ri_k, rn_k, rr_k, wr_bi, bi_e0, bi_e1, bi_T, bi_F, Classical.not_not, itp, itn, ck_t]
    · have q := (iP p h1.1 h1.2.1).1 w h1.2.2.1 (by omega)
      rw [itn h9]
      simp (disch := first | omega | (simp (disch := first | decide | omega) only [um_k, um_e, um_i, uz_k]; omega) | exact cat_i | exact cat_u | exact cat_r | assumption | exact rfl) only [b_144_0, b_144_34, b_144_49, hp, hw, hr _ _, get_4, q, wr_of, ↓reduceIte, ck_T, lt_T, lt_F, le_T, le_F, eq_T, eq_F, and_true, true_and, and_false, false_and, or_true, true_or, or_false, false_or, and_self, or_self, not_true_eq_false, not_false_eq_true, implies_true, forall_const, true_implies, false_implies, ri_k, rn_k, rr_k, wr_bi, bi_e0, bi_e1, bi_T, bi_F, Classical.not_not, itp, itn, ck_t]
  · refine Both.same hI (-1) ?_ ?_
    · simp (disch := first | omega | (simp (disch := first | decide | omega) only [um_k, um_e, um_i, uz_k]; omega) | exact cat_i | exact cat_u | exact cat_r | assumption | exact rfl) only [b_144_0, hp, hw, hr _ _, wr_of, ↓reduceIte, ck_T, lt_T, lt_F, le_T, le_F, eq_T, eq_F, and_true, true_and, and_false, false_and, or_true, true_or, or_false, false_or, and_self, or_self, not_true_eq_false, not_false_eq_true, implies_true, forall_const, true_implies, false_implies, ri_k, rn_k, rr_k, wr_bi, bi_e0, bi_e1, bi_T, bi_F, Classical.not_not, itp, itn, ck_t]
    · simp (disch := first | omega | (simp (disch := first | decide | omega) only [um_k, um_e, um_i, uz_k]; omega) | exact cat_i | exact cat_u | exact cat_r | assumption | exact rfl) only [b_216_0, hp, hw, hr _ _, wr_of, ↓reduceIte, ck_T, lt_T, lt_F, le_T, le_F, eq_T, eq_F, and_true, true_and, and_false, false_and, or_true, true_or, or_false, false_or, and_self, or_self, not_true_eq_false, not_false_eq_true, implies_true, forall_const, true_implies, false_implies, ri_k, rn_k, rr_k, wr_bi, bi_e0, bi_e1, bi_T, bi_F, Classical.not_not, itp, itn, ck_t]
theorem call_heard {p b : Int} (hI : Inv m) (hp : wr p = p) (hb : wr b = b) : Both (Z e (d + 2) 178 0 [.ref 0, .int (iI (p)), .int (iI (b))] []) (Z e (d + 2) 294 0 [.ref 246, .int (iI (p)), .int (iI (b))] []) m := by
  obtain ⟨hr, ⟨iN, iG, iP, iH, iS, iD, iT, iO, iU, iR, iV⟩, iK, iL, iF, iB, iA, iW, iX⟩ := id hI
  have bN := iN
  unfold cNum at bN
  by_cases h1 : 0 ≤ p ∧ p < m 247 1 ∧ 0 ≤ b ∧ b < m 247 7
  · have q := iH p h1.1 h1.2.1 b h1.2.2.1 (by omega)
    refine Both.same hI (m 247 (1106 + 8 * p + b)) ?_ ?_
    · simp (disch := first | omega | (simp (disch := first | decide | omega) only [um_k, um_e, um_i, uz_k]; omega) | exact cat_i | exact cat_u | exact cat_r | assumption | exact rfl) only [b_178_0, b_178_40, hp, hb, hr _ _, get_4, q.1, wr_of, ↓reduceIte, ck_T, lt_T, lt_F, le_T, le_F, eq_T, eq_F, and_true, true_and, and_false, false_and, or_true, true_or, or_false, false_or, and_self, or_self, not_true_eq_false, not_false_eq_true, implies_true, forall_const, true_implies, false_implies, ri_k, rn_k, rr_k, wr_bi, bi_e0, bi_e1, bi_T, bi_F, Classical.not_not, itp, itn, ck_t]
    · simp (disch := first | omega | (simp (disch := first | decide | omega) only [um_k, um_e, um_i, uz_k]; omega) | exact cat_i | exact cat_u | exact cat_r | assumption | exact rfl) only [b_294_0, hp, hb, hr _ _, wr_of, ↓reduceIte, ck_T, lt_T, lt_F, le_T, le_F, eq_T, eq_F, and_true, true_and, and_false, false_and, or_true, true_or, or_false, false_or, and_self, or_self, not_true_eq_false, not_false_eq_true, implies_true, forall_const, true_implies, false_implies, ri_k, rn_k, rr_k, wr_bi, bi_e0, bi_e1, bi_T, bi_F, Classical.not_not, itp, itn, ck_t]
  · refine Both.same hI (-1) ?_ ?_
    · simp (disch := first | omega | (simp (disch := first | decide | omega) only [um_k, um_e, um_i, uz_k]; omega) | exact cat_i | exact cat_u | exact cat_r | assumption | exact rfl) only [b_178_0, hp, hb, hr _ _, wr_of, ↓reduceIte, ck_T, lt_T, lt_F, le_T, le_F, eq_T, eq_F, and_true, true_and, and_false, false_and, or_true, true_or, or_false, false_or, and_self, or_self, not_true_eq_false, not_false_eq_true, implies_true, forall_const, true_implies, false_implies, ri_k, rn_k, rr_k, wr_bi, bi_e0, bi_e1, bi_T, bi_F, Classical.not_not, itp, itn, ck_t]
    · simp (disch := first | omega | (simp (disch := first | decide | omega) only [um_k, um_e, um_i, uz_k]; omega) | exact cat_i | exact cat_u | exact cat_r | assumption | exact rfl) only [b_294_0, hp, hb, hr _ _, wr_of, ↓reduceIte, ck_T, lt_T, lt_F, le_T, le_F, eq_T, eq_F, and_true, true_and, and_false, false_and, or_true, true_or, or_false, false_or, and_self, or_self, not_true_eq_false, not_false_eq_true, implies_true, forall_const, true_implies, false_implies, ri_k, rn_k, rr_k, wr_bi, bi_e0, bi_e1, bi_T, bi_F, Classical.not_not, itp, itn, ck_t]
theorem call_aim {p c : Int} (hI : Inv m) (hp : wr p = p) (hc : wr c = c) : Both (Z e (d + 3) 169 0 [.ref 0, .int (iI (p)), .int (iI (c)), .retAddr 0] []) (Z e (d + 2) 279 0 [.ref 246, .int (iI (p)), .int (iI (c)), .retAddr 0] []) m := by
  obtain ⟨hr, ⟨iN, iG, iP, iH, iS, iD, iT, iO, iU, iR, iV⟩, iK, iL, iF, iB, iA, iW, iX⟩ := id hI
  have bN := iN
  unfold cNum at bN
  by_cases h1 : 0 ≤ p ∧ p < m 247 1 ∧ 0 ≤ c ∧ c < 100
  · have q := iP p h1.1 h1.2.1
    have q0 := q.1 0 (by decide) (by decide)
    have q4 := q.1 4 (by decide) (by decide)
    unfold pRow at q
    by_cases h5 : 5 ≤ m 247 (110 + 9 * p + 2)
    · refine Both.same hI (-4) ?_ ?_
      · simp (disch := first | omega | (simp (disch := first | decide | omega) only [um_k, um_e, um_i, uz_k]; omega) | exact cat_i | exact cat_u | exact cat_r | assumption | exact rfl) only [b_169_0, b_169_25, b_169_40, b_169_59, b_169_73, b_169_87, hp, hc, hr _ _, W_isCaught hr iN iP h1.1 h1.2.1, bi_t h5, wr_of, ↓reduceIte, ck_T, lt_T, lt_F, le_T, le_F, eq_T, eq_F, and_true, true_and, and_false, false_and, or_true, true_or, or_false, false_or, and_self, or_self, not_true_eq_false, not_false_eq_true, implies_true, forall_const, true_implies, false_implies, ri_k, rn_k, rr_k, wr_bi, bi_e0, bi_e1, bi_T, bi_F, Classical.not_not, itp, itn, ck_t]
      · simp (disch := first | omega | (simp (disch := first | decide | omega) only [um_k, um_e, um_i, uz_k]; omega) | exact cat_i | exact cat_u | exact cat_r | assumption | exact rfl) only [b_279_0, hp, hc, hr _ _, wr_of, ↓reduceIte, ck_T, lt_T, lt_F, le_T, le_F, eq_T, eq_F, and_true, true_and, and_false, false_and, or_true, true_or, or_false, false_or, and_self, or_self, not_true_eq_false, not_false_eq_true, implies_true, forall_const, true_implies, false_implies, ri_k, rn_k, rr_k, wr_bi, bi_e0, bi_e1, bi_T, bi_F, Classical.not_not, itp, itn, ck_t]
    · by_cases h6 : m 247 (110 + 9 * p + 0) = c
      · refine Both.same hI (-4) ?_ ?_
        · simp (disch := first | omega | (simp (disch := first | decide | omega) only [um_k, um_e, um_i, uz_k]; omega) | exact cat_i | exact cat_u | exact cat_r | assumption | exact rfl) only [b_169_0, b_169_25, b_169_40, b_169_59, b_169_73, b_169_87, hp, hc, hr _ _, W_isCaught hr iN iP h1.1 h1.2.1, bi_f h5, get_4, q0, h6, wr_of, ↓reduceIte, ck_T, lt_T, lt_F, le_T, le_F, eq_T, eq_F, and_true, true_and, and_false, false_and, or_true, true_or, or_false, false_or, and_self, or_self, not_true_eq_false, not_false_eq_true, implies_true, forall_const, true_implies, false_implies, ri_k, rn_k, rr_k, wr_bi, bi_e0, bi_e1, bi_T, bi_F, Classical.not_not, itp, itn, ck_t]
        · simp (disch := first | omega | (simp (disch := first | decide | omega) only [um_k, um_e, um_i, uz_k]; omega) | exact cat_i | exact cat_u | exact cat_r | assumption | exact rfl) only [b_279_0, hp, hc, hr _ _, h6, wr_of, ↓reduceIte, ck_T, lt_T, lt_F, le_T, le_F, eq_T, eq_F, and_true, true_and, and_false, false_and, or_true, true_or, or_false, false_or, and_self, or_self, not_true_eq_false, not_false_eq_true, implies_true, forall_const, true_implies, false_implies, ri_k, rn_k, rr_k, wr_bi, bi_e0, bi_e1, bi_T, bi_F, Classical.not_not, itp, itn, ck_t]
      · refine ⟨m 247 (110 + 9 * p + 4), um (um m 5 (p * 18 + 4) c) 5 (p * 18 + 6) 0, um (um (um (um m 5 (p * 18 + 4) c) 5 (p * 18 + 6) 0) 247 (110 + 9 * p + 4) c) 247 (110 + 9 * p + 6) 0, ?_, ?_, ?_⟩
        · simp (disch := first | omega | (simp (disch := first | decide | omega) only [um_k, um_e, um_i, uz_k]; omega) | exact cat_i | exact cat_u | exact cat_r | assumption | exact rfl) only [b_169_0, b_169_25, b_169_40, b_169_59, b_169_73, b_169_87, hp, hc, hr _ _, W_isCaught hr iN iP h1.1 h1.2.1, bi_f h5, get_4, set_4, um_k, q0, q4, wr_of, ↓reduceIte, ck_T, lt_T, lt_F, le_T, le_F, eq_T, eq_F, and_true, true_and, and_false, false_and, or_true, true_or, or_false, false_or, and_self, or_self, not_true_eq_false, not_false_eq_true, implies_true, forall_const, true_implies, false_implies, ri_k, rn_k, rr_k, wr_bi, bi_e0, bi_e1, bi_T, bi_F, Classical.not_not, itp, itn, ck_t]
        · simp (disch := first | omega | (simp (disch := first | decide | omega) only [um_k, um_e, um_i, uz_k]; omega) | exact cat_i | exact cat_u | exact cat_r | assumption | exact rfl) only [b_279_0, hp, hc, hr _ _, um_k, h6, wr_of, ↓reduceIte, ck_T, lt_T, lt_F, le_T, le_F, eq_T, eq_F, and_true, true_and, and_false, false_and, or_true, true_or, or_false, false_or, and_self, or_self, not_true_eq_false, not_false_eq_true, implies_true, forall_const, true_implies, false_implies, ri_k, rn_k, rr_k, wr_bi, bi_e0, bi_e1, bi_T, bi_F, Classical.not_not, itp, itn, ck_t]
        · refine Inv_ppl hI ?_ (fun k g1 g2 => by simp (disch := first | omega | (simp (disch := first | decide | omega) only [um_k, um_e, um_i, uz_k]; omega) | exact cat_i | exact cat_u | exact cat_r | assumption | exact rfl) only [um_r, um_k, um_i, um_e, uz_r, uz_k, uz_i, uz_in]) (fun i g1 => by simp (disch := first | omega | (simp (disch := first | decide | omega) only [um_k, um_e, um_i, uz_k]; omega) | exact cat_i | exact cat_u | exact cat_r | assumption | exact rfl) only [um_r, um_k, um_i, um_e, uz_r, uz_k, uz_i, uz_in]) (fun p' b g1 g2 g3 => by simp (disch := first | omega | (simp (disch := first | decide | omega) only [um_k, um_e, um_i, uz_k]; omega) | exact cat_i | exact cat_u | exact cat_r | assumption | exact rfl) only [um_r, um_k, um_i, um_e, uz_r, uz_k, uz_i, uz_in]) (fun x g1 g2 => ?_)
          · exact (((hr.um hc).um rfl).um hc).um rfl
          · by_cases hx : x = p
            · rw [hx]
              unfold pRow
              refine ⟨fun f g3 g4 => ?_, ?_⟩
              · by_cases f0 : f = 4
                · simp (disch := first | omega | (simp (disch := first | decide | omega) only [um_k, um_e, um_i, uz_k]; omega) | exact cat_i | exact cat_u | exact cat_r | assumption | exact rfl) only [um_r, um_k, um_i, um_e, uz_r, uz_k, uz_i, uz_in]
                · by_cases f4 : f = 6
                  · simp (disch := first | omega | (simp (disch := first | decide | omega) only [um_k, um_e, um_i, uz_k]; omega) | exact cat_i | exact cat_u | exact cat_r | assumption | exact rfl) only [um_r, um_k, um_i, um_e, uz_r, uz_k, uz_i, uz_in]
                  · simp (disch := first | omega | (simp (disch := first | decide | omega) only [um_k, um_e, um_i, uz_k]; omega) | exact cat_i | exact cat_u | exact cat_r | assumption | exact rfl) only [um_r, um_k, um_i, um_e, uz_r, uz_k, uz_i, uz_in]
                    exact q.1 f g3 g4
              · simp (disch := first | omega | (simp (disch := first | decide | omega) only [um_k, um_e, um_i, uz_k]; omega) | exact cat_i | exact cat_u | exact cat_r | assumption | exact rfl) only [um_r, um_k, um_i, um_e, uz_r, uz_k, uz_i, uz_in, true_or, true_and]
                omega
            · exact pRow_cg (fun f _ _ => by simp (disch := first | omega | (simp (disch := first | decide | omega) only [um_k, um_e, um_i, uz_k]; omega) | exact cat_i | exact cat_u | exact cat_r | assumption | exact rfl) only [um_r, um_k, um_i, um_e, uz_r, uz_k, uz_i, uz_in]) (fun f _ _ => by simp (disch := first | omega | (simp (disch := first | decide | omega) only [um_k, um_e, um_i, uz_k]; omega) | exact cat_i | exact cat_u | exact cat_r | assumption | exact rfl) only [um_r, um_k, um_i, um_e, uz_r, uz_k, uz_i, uz_in]) (iP x g1 g2)
  · refine Both.same hI (-1) ?_ ?_
    · simp (disch := first | omega | (simp (disch := first | decide | omega) only [um_k, um_e, um_i, uz_k]; omega) | exact cat_i | exact cat_u | exact cat_r | assumption | exact rfl) only [b_169_0, hp, hc, hr _ _, wr_of, ↓reduceIte, ck_T, lt_T, lt_F, le_T, le_F, eq_T, eq_F, and_true, true_and, and_false, false_and, or_true, true_or, or_false, false_or, and_self, or_self, not_true_eq_false, not_false_eq_true, implies_true, forall_const, true_implies, false_implies, ri_k, rn_k, rr_k, wr_bi, bi_e0, bi_e1, bi_T, bi_F, Classical.not_not, itp, itn, ck_t]
    · simp (disch := first | omega | (simp (disch := first | decide | omega) only [um_k, um_e, um_i, uz_k]; omega) | exact cat_i | exact cat_u | exact cat_r | assumption | exact rfl) only [b_279_0, hp, hc, hr _ _, wr_of, ↓reduceIte, ck_T, lt_T, lt_F, le_T, le_F, eq_T, eq_F, and_true, true_and, and_false, false_and, or_true, true_or, or_false, false_or, and_self, or_self, not_true_eq_false, not_false_eq_true, implies_true, forall_const, true_implies, false_implies, ri_k, rn_k, rr_k, wr_bi, bi_e0, bi_e1, bi_T, bi_F, Classical.not_not, itp, itn, ck_t]
end PP
