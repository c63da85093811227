/-! deal. -/
section DX
variable {e : List Int32 × Value} {d : Nat} {m : zMm} {k c l n : Int}
theorem Host_tr {m2 : zMm} (iX : Host m) (hF : ∀ k, (235 ≤ k ∧ k ≤ 244) ∨ (261 ≤ k ∧ k ≤ 266) → m2 k = m k) (h8 : m2 234 8 = m2 246 35) (h0 : 0 ≤ m2 246 35 ∧ m2 246 35 ≤ 30) (ht : ∀ i, 0 ≤ i → i < m2 246 35 → m2 245 i = m2 267 i) : Host m2 := by
  unfold Host at iX ⊢
  rw [hF 235 (by omega), hF 236 (by omega), hF 242 (by omega), hF 243 (by omega), hF 244 (by omega), hF 261 (by omega), hF 262 (by omega), hF 263 (by omega), hF 264 (by omega), hF 265 (by omega), hF 266 (by omega)]
  refine ⟨fun s s0 s1 => ?_, ⟨h8, h0⟩, ht⟩
  rw [hF (238 + s.toNat) (by omega)]
  exact iX.1 s s0 s1
theorem Inv_no (hI : Inv m) : Inv (um (um m 234 8 0) 246 35 0) := by
  obtain ⟨hr, ⟨iN, iG, iP, iH, iS, iD, iT, iO, iU, iR, iV⟩, iK, iL, iF, iB, iA, iW, iX⟩ := id hI
  have bN := iN
  unfold cNum at bN
  refine Inv_host hI ((hr.um rfl).um rfl) (fun k hk => by rw [um_r (by omega), um_r (by omega)]) (fun i hi => by rw [um_i (by omega), um_k (by decide)]) (Host_tr iX (fun k hk => by rw [um_r (by omega), um_r (by omega)]) ?_ ?_ ?_)
  · rw [um_k (by decide), um_s, um_s]
  · rw [um_s]; decide
  · intro i i0 i1
    rw [um_s] at i1
    omega
theorem call_deal {s w x : Int} (hI : Inv m) (hs : wr s = s) (hw : wr w = w) (hx : wr x = x) : Both (Z e (d + 15) 189 0 [.ref 0, .int (iI (s)), .int (iI (w)), .int (iI (x))] []) (Z e (d + 31) 316 0 [.ref 246, .int (iI (s)), .int (iI (w)), .int (iI (x)), .retAddr 0, .retAddr 0] []) m := by
  obtain ⟨hr, ⟨iN, iG, iP, iH, iS, iD, iT, iO, iU, iR, iV⟩, iK, iL, iF, iB, iA, iW, iX⟩ := id hI
  have bN := iN
  unfold cNum at bN
  by_cases h1 : 0 ≤ s ∧ s < 4 ∧ 0 ≤ w ∧ w ≤ 3
  · obtain ⟨s0, s1, w0, w1⟩ := h1
    have q := (iX.1 s s0 s1).2.2.2
    by_cases hp : m 242 s = 0 ∧ 0 ≤ m 243 s ∧ m 243 s < m 247 1
    · obtain ⟨p1, p2, p3⟩ := hp
      have q2 : m 264 s = 1 ∧ m 243 s = m 265 s := by omega
      have n0 : 0 ≤ m 243 s := p2
      have pr := iP (m 243 s) p2 p3
      unfold pRow at pr
      obtain ⟨pf, pc, pl, pk, _⟩ := pr
      have g0 := pf 0 (by decide) (by decide)
      have g1 := pf 1 (by decide) (by decide)
      have g2 := pf 2 (by decide) (by decide)
      have wn := hr 243 s
      have wc := hr 247 (110 + 9 * m 243 s + 0)
      have wl := hr 247 (110 + 9 * m 243 s + 1)
      have wk := hr 247 (110 + 9 * m 243 s + 2)
      have n4 : m 4 3 = m 247 1 := bN.2.1.1
      have n16 : m 247 1 ≤ 16 := by omega
      have y264 : m 264 s = 1 := q2.1
      have y265 : m 265 s = m 243 s := q2.2.symm
      generalize hn : m 243 s = n at *
      generalize hc : m 247 (110 + 9 * n + 0) = c at *
      generalize hl : m 247 (110 + 9 * n + 1) = l at *
      generalize hk : m 247 (110 + 9 * n + 2) = k at *
      obtain ⟨M0, hM0⟩ : ∃ M0, M0 = um (um (um (um (um (um m 234 8 0) 234 9 n) 234 10 c) 234 11 l) 234 12 k) 234 13 0 := ⟨_, rfl⟩
      have hd0 : hdC k c l n M0 := by
        rw [hM0]
        refine ⟨?_, ?_, ?_, ?_, ?_⟩ <;> simp (disch := first | omega | (simp (disch := first | decide | omega) only [um_k, um_e, um_i, uz_k]; omega) | exact cat_i | exact cat_u | exact cat_r | assumption | exact rfl) only [um_r, um_k, um_i, um_e, uz_r, uz_k, uz_i, uz_in]
        decide
      have z13 : M0 234 13 = 0 := by rw [hM0]; exact um_s
      obtain ⟨m1, a1, a2⟩ := H_deal (e := e) (d := d) (m := M0) (w := w) (x := x) wc pc.1 pc.2 (by omega) ⟨w0, w1⟩ hd0 z13
      have r0 : Rng M0 := by rw [hM0]; exact (((((hr.um rfl).um wn).um wc).um wl).um wk).um rfl
      have f0 : ∀ k', ¬ k' = 234 → M0 k' = m k' := fun k' z => by rw [hM0]; simp (disch := first | omega | (simp (disch := first | decide | omega) only [um_k, um_e, um_i, uz_k]; omega) | exact cat_i | exact cat_u | exact cat_r | assumption | exact rfl) only [um_r]
      have f1 : ∀ k', ¬ k' = 234 → ¬ k' = 245 → m1 k' = m k' := fun k' z1 z2 => by rw [a2, um_r z1, fC_k z1 z2]; exact f0 k' z1
      have r1 : Rng m1 := by
        rw [a2]
        refine (fC_r (tD_wr w k) r0 hd0).um ?_
        split <;> rfl
      have e247 := f1 247 (by decide) (by decide)
      have e246 := f1 246 (by decide) (by decide)
      have e264 := f1 264 (by decide) (by decide)
      have e265 := f1 265 (by decide) (by decide)
      have hdm : hdM k c l n (um (um (um m1 246 35 0) 246 36 n) 246 37 0) := by
        refine ⟨?_, ?_, ?_, ?_, ?_⟩
        · simp (disch := first | omega | (simp (disch := first | decide | omega) only [um_k, um_e, um_i, uz_k]; omega) | exact cat_i | exact cat_u | exact cat_r | assumption | exact rfl) only [um_r, um_k, um_i, um_e, uz_r, uz_k, uz_i, uz_in]; decide
        · simp (disch := first | omega | (simp (disch := first | decide | omega) only [um_k, um_e, um_i, uz_k]; omega) | exact cat_i | exact cat_u | exact cat_r | assumption | exact rfl) only [um_r, um_k, um_i, um_e, uz_r, uz_k, uz_i, uz_in]
        · simp (disch := first | omega | (simp (disch := first | decide | omega) only [um_k, um_e, um_i, uz_k]; omega) | exact cat_i | exact cat_u | exact cat_r | assumption | exact rfl) only [um_r, um_k, um_i, um_e, uz_r, uz_k, uz_i, uz_in]; rw [e247]; exact hc
        · simp (disch := first | omega | (simp (disch := first | decide | omega) only [um_k, um_e, um_i, uz_k]; omega) | exact cat_i | exact cat_u | exact cat_r | assumption | exact rfl) only [um_r, um_k, um_i, um_e, uz_r, uz_k, uz_i, uz_in]; rw [e247]; exact hl
        · simp (disch := first | omega | (simp (disch := first | decide | omega) only [um_k, um_e, um_i, uz_k]; omega) | exact cat_i | exact cat_u | exact cat_r | assumption | exact rfl) only [um_r, um_k, um_i, um_e, uz_r, uz_k, uz_i, uz_in]; rw [e247]; exact hk
      have dd := D_deal (e := e) (d := d + 2) (m := um (um (um m1 246 35 0) 246 36 n) 246 37 0) (w := w) (x := x) p2 (by omega) wc pc.1 pc.2 (by omega) ⟨w0, w1⟩ hdm um_s
      have rM : Rng (um (um (um m1 246 35 0) 246 36 n) 246 37 0) := ((r1.um rfl).um wn).um rfl
      have st : sTr ((tD w k).foldl bgC M0) ((tD w k).foldl bgM (um (um (um m1 246 35 0) 246 36 n) 246 37 0)) := by
        refine sTr.f ⟨?_, ?_, ?_⟩
        · simp (disch := first | omega | (simp (disch := first | decide | omega) only [um_k, um_e, um_i, uz_k]; omega) | exact cat_i | exact cat_u | exact cat_r | assumption | exact rfl) only [um_r, um_k, um_i, um_e, uz_r, uz_k, uz_i, uz_in]; decide
        · rw [hM0]; simp (disch := first | omega | (simp (disch := first | decide | omega) only [um_k, um_e, um_i, uz_k]; omega) | exact cat_i | exact cat_u | exact cat_r | assumption | exact rfl) only [um_r, um_k, um_i, um_e, uz_r, uz_k, uz_i, uz_in]
        · intro i i0 i1
          simp (disch := first | omega | (simp (disch := first | decide | omega) only [um_k, um_e, um_i, uz_k]; omega) | exact cat_i | exact cat_u | exact cat_r | assumption | exact rfl) only [um_r, um_k, um_i, um_e, uz_r, uz_k, uz_i, uz_in] at i1
          omega
      generalize hfl : (if w = 3 ∧ c = 11 then (1 : Int) else 0) = fl at *
      have hfl2 : fl = 0 ∨ fl = 1 := by rw [← hfl]; split <;> simp
      refine ⟨if ¬ fl = 0 then -15 else vD w c l n k x, m1, um ((tD w k).foldl bgM (um (um (um m1 246 35 0) 246 36 n) 246 37 0)) 246 37 fl, ?_, ?_, ?_⟩
      · have m13 : m1 234 13 = fl := by rw [a2]; exact um_s
        have pre : Z e (d + 14) 11 0 [.ref 234, .int (iI s), .int (iI w), .int (iI x), .retAddr 0] [] (um m 234 8 0) = Z e (d + 14) 11 83 [.ref 234, .int (iI s), .int (iI w), .int (iI x), .retAddr 0] [.int (iI k), .ref 234] (um (um (um (um m 234 8 0) 234 9 n) 234 10 c) 234 11 l) := by
          simp (disch := first | omega | (simp (disch := first | decide | omega) only [um_k, um_e, um_i, uz_k]; omega) | exact cat_i | exact cat_u | exact cat_r | assumption | exact rfl) only [b_11_0, b_11_45, b_11_64, hs, um_k, um_i, um_s, hr _ _, hn, wn, p1, n4, get_4, g0, g1, g2, wr_of, ↓reduceIte, ck_T, lt_T, lt_F, le_T, le_F, eq_T, eq_F, and_true, true_and, and_false, false_and, or_true, true_or, or_false, false_or, and_self, or_self, not_true_eq_false, not_false_eq_true, implies_true, forall_const, true_implies, false_implies, ri_k, rn_k, rr_k, wr_bi, bi_e0, bi_e1, bi_T, bi_F, Classical.not_not, itp, itn, ck_t]
        have fin : Z e (d + 14) 11 83 [.ref 234, .int (iI s), .int (iI w), .int (iI x), .retAddr 0] [.int (iI k), .ref 234] (um (um (um (um m 234 8 0) 234 9 n) 234 10 c) 234 11 l) = ri (if ¬ fl = 0 then -15 else vD w c l n k x) m1 := by
          have e12 : um (um (um (um (um (um m 234 8 0) 234 9 n) 234 10 c) 234 11 l) 234 12 k) 234 13 0 234 12 = k := by simp (disch := first | omega | (simp (disch := first | decide | omega) only [um_k, um_e, um_i, uz_k]; omega) | exact cat_i | exact cat_u | exact cat_r | assumption | exact rfl) only [um_r, um_k, um_i, um_e, uz_r, uz_k, uz_i, uz_in]
          have wf : wr fl = fl := wr_of (by omega) (by omega)
          refine (b_11_83).trans ?_
          rw [e12, ← hM0, hw]
          have hc4 : w = 0 ∨ w = 1 ∨ w = 2 ∨ w = 3 := by omega
          rcases hc4 with z | z | z | z <;> subst z
          · rw [if_pos rfl] at a1
            rw [itp rfl, a1, ri_k, b_11_104, b_11_150 cat_i, m13, wf]
          · rw [if_neg (by decide), if_pos rfl] at a1
            rw [itn (by decide), itp rfl, a1, ri_k, b_11_121, b_11_150 cat_i, m13, wf]
          · rw [if_neg (by decide), if_neg (by decide), if_pos rfl] at a1
            rw [itn (by decide), itn (by decide), itp rfl, a1, ri_k, b_11_138, b_11_150 cat_i, m13, wf]
          · rw [if_neg (by decide), if_neg (by decide), if_neg (by decide)] at a1
            rw [itn (by decide), itn (by decide), itn (by decide), a1, ri_k, b_11_150 cat_i, m13, wf]
        rw [b_189_0, hs, hw, itn (by omega), pre, fin, ri_k, b_189_36]
      · have m37 : um ((tD w k).foldl bgM (um (um (um m1 246 35 0) 246 36 n) 246 37 0)) 246 37 fl 246 37 = fl := um_s
        have wf : wr fl = fl := wr_of (by omega) (by omega)
        have w1' : wr (m 247 1 - 1) = m 247 1 - 1 := wr_of (by omega) (by omega)
        have pre : Z e (d + 31) 316 0 [.ref 246, .int (iI (s)), .int (iI (w)), .int (iI (x)), .retAddr 0, .retAddr 0] [] m1 = Z e (d + 31) 316 54 [.ref 246, .int (iI s), .int (iI w), .int (iI x), .int (iI n), .retAddr 0] [.int (iI (vD w c l n k x))] (um ((tD w k).foldl bgM (um (um (um m1 246 35 0) 246 36 n) 246 37 0)) 246 37 fl) := by
          simp (disch := first | omega | (simp (disch := first | decide | omega) only [um_k, um_e, um_i, uz_k]; omega) | exact cat_i | exact cat_u | exact cat_r | assumption | exact rfl) only [b_316_0, hs, hw, um_k, e264, e265, e247, hr _ _, y264, y265, wn, w1', dd, wr_of, ↓reduceIte, ck_T, lt_T, lt_F, le_T, le_F, eq_T, eq_F, and_true, true_and, and_false, false_and, or_true, true_or, or_false, false_or, and_self, or_self, not_true_eq_false, not_false_eq_true, implies_true, forall_const, true_implies, false_implies, ri_k, rn_k, rr_k, wr_bi, bi_e0, bi_e1, bi_T, bi_F, Classical.not_not, itp, itn, ck_t]
        rw [pre, b_316_54 cat_i, m37, wf]
      · have a8 : m1 234 8 = (tD w k).foldl bgC M0 234 8 := by rw [a2, um_i (by decide)]
        have a5 : m1 245 = (tD w k).foldl bgC M0 245 := by rw [a2, um_r (by decide)]
        have rfin : Rng (um ((tD w k).foldl bgM (um (um (um m1 246 35 0) 246 36 n) 246 37 0)) 246 37 fl) := (fM_r (tD_wr w k) rM hdm).um (wr_of (by omega) (by omega))
        have ff : ∀ k', ¬ k' = 246 → ¬ k' = 267 → um ((tD w k).foldl bgM (um (um (um m1 246 35 0) 246 36 n) 246 37 0)) 246 37 fl k' = m1 k' := fun k' z1 z2 => by rw [um_r z1, fM_k z1 z2]; simp (disch := first | omega | (simp (disch := first | decide | omega) only [um_k, um_e, um_i, uz_k]; omega) | exact cat_i | exact cat_u | exact cat_r | assumption | exact rfl) only [um_r]
        have fi : ∀ i, ¬ i = 35 → ¬ i = 36 → ¬ i = 37 → um ((tD w k).foldl bgM (um (um (um m1 246 35 0) 246 36 n) 246 37 0)) 246 37 fl 246 i = m 246 i := fun i z1 z2 z3 => by rw [um_i z3, fM_i z1, um_i z3, um_i z2, um_i z1, e246]
        have e35 : um ((tD w k).foldl bgM (um (um (um m1 246 35 0) 246 36 n) 246 37 0)) 246 37 fl 246 35 = (tD w k).foldl bgM (um (um (um m1 246 35 0) 246 36 n) 246 37 0) 246 35 := um_i (by decide)
        refine Inv_host hI rfin (fun k' hk' => by rw [ff k' (by omega) (by omega)]; exact f1 k' (by omega) (by omega)) (fun i hi => fi i (by omega) (by omega) (by omega)) (Host_tr iX (fun k' hk' => by rw [ff k' (by omega) (by omega)]; exact f1 k' (by omega) (by omega)) ?_ ?_ ?_)
        · rw [e35, ff 234 (by decide) (by decide), a8]
          exact st.2.1
        · rw [e35]; exact st.1
        · rw [e35]
          intro i i0 i1
          rw [ff 245 (by decide) (by decide), a5, um_r (show ¬ 267 = 246 by decide)]
          exact st.2.2 i i0 i1
    · refine ⟨0, um m 234 8 0, um (um m 234 8 0) 246 35 0, ?_, ?_, Inv_no hI⟩
      · have n4 : m 4 3 = m 247 1 := bN.2.1.1
        have w242 := hr 242 s
        have w243 := hr 243 s
        by_cases z0 : m 242 s = 0
        · by_cases z1 : 0 ≤ m 243 s
          · have z2 : ¬ m 243 s < m 247 1 := fun y => hp ⟨z0, z1, y⟩
            simp (disch := first | omega | (simp (disch := first | decide | omega) only [um_k, um_e, um_i, uz_k]; omega) | exact cat_i | exact cat_u | exact cat_r | assumption | exact rfl) only [b_189_0, b_189_36, b_11_0, hs, hw, um_k, hr _ _, w242, w243, z0, z1, z2, n4, wr_of, ↓reduceIte, ck_T, lt_T, lt_F, le_T, le_F, eq_T, eq_F, and_true, true_and, and_false, false_and, or_true, true_or, or_false, false_or, and_self, or_self, not_true_eq_false, not_false_eq_true, implies_true, forall_const, true_implies, false_implies, ri_k, rn_k, rr_k, wr_bi, bi_e0, bi_e1, bi_T, bi_F, Classical.not_not, itp, itn, ck_t]
          · simp (disch := first | omega | (simp (disch := first | decide | omega) only [um_k, um_e, um_i, uz_k]; omega) | exact cat_i | exact cat_u | exact cat_r | assumption | exact rfl) only [b_189_0, b_189_36, b_11_0, hs, hw, um_k, hr _ _, w242, w243, z0, z1, n4, wr_of, ↓reduceIte, ck_T, lt_T, lt_F, le_T, le_F, eq_T, eq_F, and_true, true_and, and_false, false_and, or_true, true_or, or_false, false_or, and_self, or_self, not_true_eq_false, not_false_eq_true, implies_true, forall_const, true_implies, false_implies, ri_k, rn_k, rr_k, wr_bi, bi_e0, bi_e1, bi_T, bi_F, Classical.not_not, itp, itn, ck_t]
        · by_cases z2 : m 242 s = 2
          · simp (disch := first | omega | (simp (disch := first | decide | omega) only [um_k, um_e, um_i, uz_k]; omega) | exact cat_i | exact cat_u | exact cat_r | assumption | exact rfl) only [b_189_0, b_189_36, b_11_0, hs, hw, um_k, hr _ _, w242, w243, z2, n4, wr_of, ↓reduceIte, ck_T, lt_T, lt_F, le_T, le_F, eq_T, eq_F, and_true, true_and, and_false, false_and, or_true, true_or, or_false, false_or, and_self, or_self, not_true_eq_false, not_false_eq_true, implies_true, forall_const, true_implies, false_implies, ri_k, rn_k, rr_k, wr_bi, bi_e0, bi_e1, bi_T, bi_F, Classical.not_not, itp, itn, ck_t]
          · simp (disch := first | omega | (simp (disch := first | decide | omega) only [um_k, um_e, um_i, uz_k]; omega) | exact cat_i | exact cat_u | exact cat_r | assumption | exact rfl) only [b_189_0, b_189_36, b_11_0, hs, hw, um_k, hr _ _, w242, w243, z0, z2, n4, wr_of, ↓reduceIte, ck_T, lt_T, lt_F, le_T, le_F, eq_T, eq_F, and_true, true_and, and_false, false_and, or_true, true_or, or_false, false_or, and_self, or_self, not_true_eq_false, not_false_eq_true, implies_true, forall_const, true_implies, false_implies, ri_k, rn_k, rr_k, wr_bi, bi_e0, bi_e1, bi_T, bi_F, Classical.not_not, itp, itn, ck_t]
      · have w264 := hr 264 s
        have w265 := hr 265 s
        have w1' : wr (m 247 1 - 1) = m 247 1 - 1 := wr_of (by omega) (by omega)
        by_cases z1 : m 264 s = 1
        · have z3 : m 242 s = 0 ∧ m 243 s = m 265 s := by omega
          by_cases z2 : 0 ≤ m 265 s
          · have z4 : ¬ m 265 s ≤ m 247 1 - 1 := fun y => hp ⟨z3.1, by omega, by omega⟩
            simp (disch := first | omega | (simp (disch := first | decide | omega) only [um_k, um_e, um_i, uz_k]; omega) | exact cat_i | exact cat_u | exact cat_r | assumption | exact rfl) only [b_316_0, hs, hw, um_k, hr _ _, w264, w265, w1', z1, z2, z4, wr_of, ↓reduceIte, ck_T, lt_T, lt_F, le_T, le_F, eq_T, eq_F, and_true, true_and, and_false, false_and, or_true, true_or, or_false, false_or, and_self, or_self, not_true_eq_false, not_false_eq_true, implies_true, forall_const, true_implies, false_implies, ri_k, rn_k, rr_k, wr_bi, bi_e0, bi_e1, bi_T, bi_F, Classical.not_not, itp, itn, ck_t]
          · simp (disch := first | omega | (simp (disch := first | decide | omega) only [um_k, um_e, um_i, uz_k]; omega) | exact cat_i | exact cat_u | exact cat_r | assumption | exact rfl) only [b_316_0, hs, hw, um_k, hr _ _, w264, w265, w1', z1, z2, wr_of, ↓reduceIte, ck_T, lt_T, lt_F, le_T, le_F, eq_T, eq_F, and_true, true_and, and_false, false_and, or_true, true_or, or_false, false_or, and_self, or_self, not_true_eq_false, not_false_eq_true, implies_true, forall_const, true_implies, false_implies, ri_k, rn_k, rr_k, wr_bi, bi_e0, bi_e1, bi_T, bi_F, Classical.not_not, itp, itn, ck_t]
        · simp (disch := first | omega | (simp (disch := first | decide | omega) only [um_k, um_e, um_i, uz_k]; omega) | exact cat_i | exact cat_u | exact cat_r | assumption | exact rfl) only [b_316_0, hs, hw, um_k, hr _ _, w264, w265, w1', z1, wr_of, ↓reduceIte, ck_T, lt_T, lt_F, le_T, le_F, eq_T, eq_F, and_true, true_and, and_false, false_and, or_true, true_or, or_false, false_or, and_self, or_self, not_true_eq_false, not_false_eq_true, implies_true, forall_const, true_implies, false_implies, ri_k, rn_k, rr_k, wr_bi, bi_e0, bi_e1, bi_T, bi_F, Classical.not_not, itp, itn, ck_t]
  · refine ⟨0, um m 234 8 0, um (um m 234 8 0) 246 35 0, ?_, ?_, Inv_no hI⟩
    · simp (disch := first | omega | (simp (disch := first | decide | omega) only [um_k, um_e, um_i, uz_k]; omega) | exact cat_i | exact cat_u | exact cat_r | assumption | exact rfl) only [b_189_0, hs, hw, wr_of, ↓reduceIte, ck_T, lt_T, lt_F, le_T, le_F, eq_T, eq_F, and_true, true_and, and_false, false_and, or_true, true_or, or_false, false_or, and_self, or_self, not_true_eq_false, not_false_eq_true, implies_true, forall_const, true_implies, false_implies, ri_k, rn_k, rr_k, wr_bi, bi_e0, bi_e1, bi_T, bi_F, Classical.not_not, itp, itn, ck_t]
    · simp (disch := first | omega | (simp (disch := first | decide | omega) only [um_k, um_e, um_i, uz_k]; omega) | exact cat_i | exact cat_u | exact cat_r | assumption | exact rfl) only [b_316_0, hs, hw, wr_of, ↓reduceIte, ck_T, lt_T, lt_F, le_T, le_F, eq_T, eq_F, and_true, true_and, and_false, false_and, or_true, true_or, or_false, false_or, and_self, or_self, not_true_eq_false, not_false_eq_true, implies_true, forall_const, true_implies, false_implies, ri_k, rn_k, rr_k, wr_bi, bi_e0, bi_e1, bi_T, bi_F, Classical.not_not, itp, itn, ck_t]
end DX
