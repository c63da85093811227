/-! who: the reference, and both. -/
section WI
variable {e : List Int32 × Value} {d : Nat} {m : zMm}
theorem M_wh {s : Int} (hI : Inv m) (h0 : 0 ≤ s) (h1 : s < m 247 8) (hw : isWay (wall (m 247)) (m 247 (1234 + 3 * s + 0)) (wy (m 252))) (hv : ∀ c, 0 ≤ c → c < 100 → ¬ m 252 c = -3) : Z e (d + 2) 296 35 [.ref 246, .int (iI s), .retAddr 0, .retAddr 0, .retAddr 0, .retAddr 0, .retAddr 0, .retAddr 0, .retAddr 0] [] m = ri (whS (m 247) s) m := by
  obtain ⟨hr, ⟨iN, iG, iP, iH, iS, iD, iT, iO, iU, iR, iV⟩, iK, iL, iF, iB, iA, iW, iX⟩ := id hI
  have bN := iN
  unfold cNum at bN
  have q := iU s h0 h1
  have b0 : 0 ≤ (m 247 (1234 + 3 * s + 1) + 4) % 24 ∧ (m 247 (1234 + 3 * s + 1) + 4) % 24 < 24 := by omega
  have ej : (if 20 ≤ m 247 (1234 + 3 * s + 1) % 24 then m 247 (1234 + 3 * s + 1) % 24 - 20 else m 247 (1234 + 3 * s + 1) % 24 + 4) = (m 247 (1234 + 3 * s + 1) + 4) % 24 := by
    by_cases g : 20 ≤ m 247 (1234 + 3 * s + 1) % 24
    · rw [if_pos g]; omega
    · rw [if_neg g]; omega
  have key := lpG (F := fun i y (u : Value × Value) => Z e (d + 2) 296 92 [.ref 246, .int (iI s), .int (iI (m 247 (1234 + 3 * s + 1) % 24)), .int (iI ((m 247 (1234 + 3 * s + 1) + 4) % 24)), .int (iI (m 247 (1234 + 3 * s + 2))), .int (iI y), .int (iI i), u.1, u.2] [] m) (G := fun y => ri y m) (f := fun p b => cif (whP (m 247) s p) (jor b (jshl 1 p)) b) (I := fun _ y => wr y = y) (n := m 247 1) (by omega) 0 (.retAddr 0, .retAddr 0) rfl
    (by
      intro i y u g1 g2 gI
      have p := iP i g1 g2
      have pb := p.2.1
      have pc := p.2.2.1
      have w0 := wayS_eq hw pb.1 pb.2
      have hv0 := hv _ pb.1 pb.2
      have mb := mul_b pc.1 pc.2 b0.1 b0.2
      have wm : wr (m 247 (110 + 9 * i + 1) * ((m 247 (1234 + 3 * s + 1) + 4) % 24)) = m 247 (110 + 9 * i + 1) * ((m 247 (1234 + 3 * s + 1) + 4) % 24) := wr_of (by omega) (by omega)
      have wc : (m 252 (m 247 (110 + 9 * i + 0)) ≤ m 247 (110 + 9 * i + 1) * ((m 247 (1234 + 3 * s + 1) + 4) % 24)) ↔ (¬ wayS (m 247) (m 247 (1234 + 3 * s + 0)) (m 247 (110 + 9 * i + 0)) = -3 ∧ wayS (m 247) (m 247 (1234 + 3 * s + 0)) (m 247 (110 + 9 * i + 0)) ≤ m 247 (110 + 9 * i + 1) * ((m 247 (1234 + 3 * s + 1) + 4) % 24)) := by
        rw [← w0]
        unfold wy
        by_cases g : m 252 (m 247 (110 + 9 * i + 0)) = 1000
        · rw [if_pos g]; constructor
          · intro h; omega
          · intro h; exact absurd rfl h.1
        · rw [if_neg g]
          exact ⟨fun h => ⟨hv0, h⟩, fun h => h.2⟩
      refine ⟨?_, ?_⟩
      · by_cases c1 : m 247 (110 + 9 * i + 2) = 4
        · by_cases c4 : m 252 (m 247 (110 + 9 * i + 0)) ≤ m 247 (110 + 9 * i + 1) * ((m 247 (1234 + 3 * s + 1) + 4) % 24)
          · by_cases c0 : m 247 (1234 + 3 * s + 2) = 0
            · refine ⟨(.int (iI (m 247 (110 + 9 * i + 1))), .int (iI 1)), ?_⟩
              refine (b_296_92).trans ?_
              simp (disch := first | omega | (simp (disch := first | decide | omega) only [um_k, um_e, um_i, uz_k]; omega) | exact cat_i | exact cat_u | exact cat_r | assumption | exact rfl) only [hr _ _, wm, c1, c4, c0, cif_t (show whP (m 247) s i from ⟨c1, Or.inl c0, wc.mp c4⟩), wr_of, ↓reduceIte, ck_T, lt_T, lt_F, le_T, le_F, eq_T, eq_F, and_true, true_and, and_false, false_and, or_true, true_or, or_false, false_or, and_self, or_self, not_true_eq_false, not_false_eq_true, implies_true, forall_const, true_implies, false_implies, ri_k, rn_k, rr_k, wr_bi, bi_e0, bi_e1, bi_T, bi_F, Classical.not_not, itp, itn, ck_t]
            · by_cases c2 : m 247 (1234 + 3 * s + 2) = m 247 (110 + 9 * i + 1)
              · refine ⟨(.int (iI (m 247 (110 + 9 * i + 1))), .int (iI 1)), ?_⟩
                refine (b_296_92).trans ?_
                simp (disch := first | omega | (simp (disch := first | decide | omega) only [um_k, um_e, um_i, uz_k]; omega) | exact cat_i | exact cat_u | exact cat_r | assumption | exact rfl) only [hr _ _, wm, c1, c4, c2, cif_t (show whP (m 247) s i from ⟨c1, Or.inr c2, wc.mp c4⟩), wr_of, ↓reduceIte, ck_T, lt_T, lt_F, le_T, le_F, eq_T, eq_F, and_true, true_and, and_false, false_and, or_true, true_or, or_false, false_or, and_self, or_self, not_true_eq_false, not_false_eq_true, implies_true, forall_const, true_implies, false_implies, ri_k, rn_k, rr_k, wr_bi, bi_e0, bi_e1, bi_T, bi_F, Classical.not_not, itp, itn, ck_t]
              · refine ⟨(.int (iI (m 247 (110 + 9 * i + 1))), .int (iI 0)), ?_⟩
                refine (b_296_92).trans ?_
                simp (disch := first | omega | (simp (disch := first | decide | omega) only [um_k, um_e, um_i, uz_k]; omega) | exact cat_i | exact cat_u | exact cat_r | assumption | exact rfl) only [hr _ _, wm, c1, c4, c2, c0, cif_f (show ¬ whP (m 247) s i from fun q => q.2.1.elim c0 c2), jor_0 gI, wr_of, ↓reduceIte, ck_T, lt_T, lt_F, le_T, le_F, eq_T, eq_F, and_true, true_and, and_false, false_and, or_true, true_or, or_false, false_or, and_self, or_self, not_true_eq_false, not_false_eq_true, implies_true, forall_const, true_implies, false_implies, ri_k, rn_k, rr_k, wr_bi, bi_e0, bi_e1, bi_T, bi_F, Classical.not_not, itp, itn, ck_t]
          · refine ⟨(.int (iI (m 247 (110 + 9 * i + 1))), .int (iI 0)), ?_⟩
            refine (b_296_92).trans ?_
            by_cases c0 : m 247 (1234 + 3 * s + 2) = 0
            · simp (disch := first | omega | (simp (disch := first | decide | omega) only [um_k, um_e, um_i, uz_k]; omega) | exact cat_i | exact cat_u | exact cat_r | assumption | exact rfl) only [hr _ _, wm, c1, c4, c0, cif_f (show ¬ whP (m 247) s i from fun q => c4 (wc.mpr q.2.2)), jor_0 gI, wr_of, ↓reduceIte, ck_T, lt_T, lt_F, le_T, le_F, eq_T, eq_F, and_true, true_and, and_false, false_and, or_true, true_or, or_false, false_or, and_self, or_self, not_true_eq_false, not_false_eq_true, implies_true, forall_const, true_implies, false_implies, ri_k, rn_k, rr_k, wr_bi, bi_e0, bi_e1, bi_T, bi_F, Classical.not_not, itp, itn, ck_t]
            · simp (disch := first | omega | (simp (disch := first | decide | omega) only [um_k, um_e, um_i, uz_k]; omega) | exact cat_i | exact cat_u | exact cat_r | assumption | exact rfl) only [hr _ _, wm, c1, c4, c0, cif_f (show ¬ whP (m 247) s i from fun q => c4 (wc.mpr q.2.2)), jor_0 gI, wr_of, ↓reduceIte, ck_T, lt_T, lt_F, le_T, le_F, eq_T, eq_F, and_true, true_and, and_false, false_and, or_true, true_or, or_false, false_or, and_self, or_self, not_true_eq_false, not_false_eq_true, implies_true, forall_const, true_implies, false_implies, ri_k, rn_k, rr_k, wr_bi, bi_e0, bi_e1, bi_T, bi_F, Classical.not_not, itp, itn, ck_t]
        · refine ⟨(.int (iI (m 247 (110 + 9 * i + 1))), .int (iI 0)), ?_⟩
          refine (b_296_92).trans ?_
          simp (disch := first | omega | (simp (disch := first | decide | omega) only [um_k, um_e, um_i, uz_k]; omega) | exact cat_i | exact cat_u | exact cat_r | assumption | exact rfl) only [hr _ _, wm, c1, cif_f (show ¬ whP (m 247) s i from fun q => c1 q.1), jor_0 gI, wr_of, ↓reduceIte, ck_T, lt_T, lt_F, le_T, le_F, eq_T, eq_F, and_true, true_and, and_false, false_and, or_true, true_or, or_false, false_or, and_self, or_self, not_true_eq_false, not_false_eq_true, implies_true, forall_const, true_implies, false_implies, ri_k, rn_k, rr_k, wr_bi, bi_e0, bi_e1, bi_T, bi_F, Classical.not_not, itp, itn, ck_t]
      · by_cases hs : whP (m 247) s i
        · rw [cif_t hs]; exact wr_jor
        · rw [cif_f hs]; exact gI)
    (by
      intro y u gI
      refine (b_296_92).trans ?_
      simp (disch := first | omega | (simp (disch := first | decide | omega) only [um_k, um_e, um_i, uz_k]; omega) | exact cat_i | exact cat_u | exact cat_r | assumption | exact rfl) only [hr _ _, wr_of, ↓reduceIte, ck_T, lt_T, lt_F, le_T, le_F, eq_T, eq_F, and_true, true_and, and_false, false_and, or_true, true_or, or_false, false_or, and_self, or_self, not_true_eq_false, not_false_eq_true, implies_true, forall_const, true_implies, false_implies, ri_k, rn_k, rr_k, wr_bi, bi_e0, bi_e1, bi_T, bi_F, Classical.not_not, itp, itn, ck_t])
  unfold whS
  rw [← key.1, ← ej]
  have ej2 : jrem (m 247 (1234 + 3 * s + 1)) 24 = m 247 (1234 + 3 * s + 1) % 24 := jrem_n (by omega) (by omega) (by decide) (by decide)
  have ej3 : wr (m 247 (1234 + 3 * s + 1) % 24) = m 247 (1234 + 3 * s + 1) % 24 := wr_of (by omega) (by omega)
  simp only [b_296_35, ej2, ej3]
  simp (disch := omega) only [wr_of, ck_t]
  simp only [ej2]
theorem call_who {s : Int} (hI : Inv m) (hs : wr s = s) : Both (Z e (d + 3) 180 0 [.ref 0, .int (iI (s))] []) (Z e (d + 4) 296 0 [.ref 246, .int (iI (s)), .retAddr 0, .retAddr 0, .retAddr 0, .retAddr 0, .retAddr 0, .retAddr 0, .retAddr 0] []) m := by
  obtain ⟨hr, ⟨iN, iG, iP, iH, iS, iD, iT, iO, iU, iR, iV⟩, iK, iL, iF, iB, iA, iW, iX⟩ := id hI
  have bN := iN
  unfold cNum at bN
  by_cases h1 : 0 ≤ s ∧ s < m 247 8
  · have q := iU s h1.1 h1.2
    have e0 := q.1 0 (by decide) (by decide)
    obtain ⟨m1, a1, a2, a3, a4⟩ := R_spread (e := e) (d := d) (m := m) (a2 := 194) ⟨hs_194, by decide⟩ (by decide) (by decide) (by decide) (by decide) hr (fun c g0 g1 => (iG c g0 g1).1) iB q.2.1.1 q.2.1.2
    have e1 : m1 247 = m 247 := a4 247 (by decide) (by decide)
    have hI1 : Inv m1 := Inv_scr hI a3 (fun k g => a4 k (by unfold scr at g; omega) (by unfold scr at g; omega))
    obtain ⟨m2, b1, b2, b3, b4, b5⟩ := findWays_ok (e := e) (d := d) (m := m1) a3 q.2.1.1 q.2.1.2
    have e2 : m2 247 = m 247 := by rw [b5 247 (by decide) (by decide), e1]
    have hI2 : Inv m2 := Inv_scr hI1 b4 (fun k g => b5 k (by unfold scr at g; omega) (by unfold scr at g; omega))
    have p := P_wh (e := e) (d := d) (s := s) hI1 h1.1 (by rw [e1]; exact h1.2) (by rw [e1]; exact a2)
    have r := M_wh (e := e) (d := d + 2) (s := s) hI2 h1.1 (by rw [e2]; exact h1.2) (by rw [e2]; rw [e1] at b2; exact b2) b3
    rw [e1] at p
    rw [e2] at r
    have b1' : Z e (d + 3) 209 0 [.ref 246, .int (iI (m 247 (1234 + 3 * s))), .retAddr 0, .retAddr 0, .retAddr 0, .retAddr 0] [] m1 = rn m2 := by rw [Int.add_zero] at b1; exact b1
    refine ⟨whS (m 247) s, m1, m2, ?_, ?_, hI2⟩
    · simp (disch := first | omega | (simp (disch := first | decide | omega) only [um_k, um_e, um_i, uz_k]; omega) | exact cat_i | exact cat_u | exact cat_r | assumption | exact rfl) only [b_180_0, b_180_24, b_91_0, b_91_13, hs, hr _ _, get_16, e0, a1, p, wr_of, ↓reduceIte, ck_T, lt_T, lt_F, le_T, le_F, eq_T, eq_F, and_true, true_and, and_false, false_and, or_true, true_or, or_false, false_or, and_self, or_self, not_true_eq_false, not_false_eq_true, implies_true, forall_const, true_implies, false_implies, ri_k, rn_k, rr_k, wr_bi, bi_e0, bi_e1, bi_T, bi_F, Classical.not_not, itp, itn, ck_t]
    · simp (disch := first | omega | (simp (disch := first | decide | omega) only [um_k, um_e, um_i, uz_k]; omega) | exact cat_i | exact cat_u | exact cat_r | assumption | exact rfl) only [b_296_0, hs, e1, hr _ _, b1', r, wr_of, ↓reduceIte, ck_T, lt_T, lt_F, le_T, le_F, eq_T, eq_F, and_true, true_and, and_false, false_and, or_true, true_or, or_false, false_or, and_self, or_self, not_true_eq_false, not_false_eq_true, implies_true, forall_const, true_implies, false_implies, ri_k, rn_k, rr_k, wr_bi, bi_e0, bi_e1, bi_T, bi_F, Classical.not_not, itp, itn, ck_t]
  · refine Both.same hI (-1) ?_ ?_
    · simp (disch := first | omega | (simp (disch := first | decide | omega) only [um_k, um_e, um_i, uz_k]; omega) | exact cat_i | exact cat_u | exact cat_r | assumption | exact rfl) only [b_180_0, hs, hr _ _, wr_of, ↓reduceIte, ck_T, lt_T, lt_F, le_T, le_F, eq_T, eq_F, and_true, true_and, and_false, false_and, or_true, true_or, or_false, false_or, and_self, or_self, not_true_eq_false, not_false_eq_true, implies_true, forall_const, true_implies, false_implies, ri_k, rn_k, rr_k, wr_bi, bi_e0, bi_e1, bi_T, bi_F, Classical.not_not, itp, itn, ck_t]
    · simp (disch := first | omega | (simp (disch := first | decide | omega) only [um_k, um_e, um_i, uz_k]; omega) | exact cat_i | exact cat_u | exact cat_r | assumption | exact rfl) only [b_296_0, hs, hr _ _, wr_of, ↓reduceIte, ck_T, lt_T, lt_F, le_T, le_F, eq_T, eq_F, and_true, true_and, and_false, false_and, or_true, true_or, or_false, false_or, and_self, or_self, not_true_eq_false, not_false_eq_true, implies_true, forall_const, true_implies, false_implies, ri_k, rn_k, rr_k, wr_bi, bi_e0, bi_e1, bi_T, bi_F, Classical.not_not, itp, itn, ck_t]
end WI
