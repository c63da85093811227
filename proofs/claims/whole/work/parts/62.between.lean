/-! Cells that no promise rests on; between. -/
def scr (k : Nat) : Prop := (181 ≤ k ∧ k ≤ 191) ∨ (193 ≤ k ∧ k ≤ 195) ∨ k = 203 ∨ (206 ≤ k ∧ k ≤ 225) ∨ (227 ≤ k ∧ k ≤ 229) ∨ k = 252 ∨ k = 253 ∨ (255 ≤ k ∧ k ≤ 260) ∨ 268 ≤ k
theorem Inv_scr {m m' : zMm} (hI : Inv m) (hr' : Rng m') (h : ∀ k, ¬ scr k → m' k = m k) : Inv m' := by
  obtain ⟨hr, ⟨iN, iG, iP, iH, iS, iD, iT, iO, iU, iR, iV⟩, iK, iL, iF, iB, iA, iW, iX⟩ := id hI
  have bN := iN
  unfold cNum at bN
  have hC : Core m (m 247) := ⟨iN, iG, iP, iH, iS, iD, iT, iO, iU, iR, iV⟩
  have f0 := h 0 (by unfold scr; omega)
  have f246 := h 246 (by unfold scr; omega)
  have f247 := h 247 (by unfold scr; omega)
  have f248 := h 248 (by unfold scr; omega)
  refine ⟨hr', ?_, ?_, ?_, ?_, ?_, ?_, ?_, ?_⟩
  · exact Core_cg (fun k _ _ => h k (by unfold scr; omega)) (fun i _ _ => by rw [f247]) hC
  · unfold Kept at *
    rw [f0, f246, f248]
    exact ⟨iK.1, iK.2.imp id (fun q => ⟨q.1, Core_cg (F := fun k => m (k + 89)) (F' := fun k => m' (k + 89)) (fun k _ _ => h (k + 89) (by unfold scr; omega)) (fun _ _ _ => rfl) q.2⟩)⟩
  · exact LawOK_cg (h 202 (by unfold scr; omega)) (h 204 (by unfold scr; omega)) (h 205 (by unfold scr; omega)) (fun k _ _ => h k (by unfold scr; omega)) (by omega) (by rw [f247]) iL
  · exact RefOK_cg (by rw [f246]) (by rw [f246]) (by rw [f246]) (h 254 (by unfold scr; omega)) (by rw [f247]) iF
  · unfold beside at *
    rw [h 192 (by unfold scr; omega)]
    exact iB
  · unfold Tape at *
    rw [f246, h 179 (by unfold scr; omega), h 180 (by unfold scr; omega), h 249 (by unfold scr; omega)]
    exact iA
  · unfold Rows at *
    rw [f246, h 230 (by unfold scr; omega), h 226 (by unfold scr; omega), h 232 (by unfold scr; omega), h 231 (by unfold scr; omega), h 250 (by unfold scr; omega), h 233 (by unfold scr; omega), h 251 (by unfold scr; omega)]
    exact iW
  · unfold Host at *
    rw [f246, h 234 (by unfold scr; omega), h 235 (by unfold scr; omega), h 236 (by unfold scr; omega), h 242 (by unfold scr; omega), h 243 (by unfold scr; omega), h 244 (by unfold scr; omega), h 245 (by unfold scr; omega), h 261 (by unfold scr; omega), h 262 (by unfold scr; omega), h 263 (by unfold scr; omega), h 264 (by unfold scr; omega), h 265 (by unfold scr; omega), h 266 (by unfold scr; omega), h 267 (by unfold scr; omega)]
    refine ⟨fun s h0 h1 => ?_, iX.2⟩
    rw [h (238 + s.toNat) (by unfold scr; omega)]
    exact iX.1 s h0 h1
section BT
variable {e : List Int32 × Value} {d : Nat} {m : zMm}
theorem way_ok {a c : Int} (hr : Rng m) (hG : cGnd m (m 247)) (hB : beside m) (a0 : 0 ≤ a) (a1 : a < 100) (c0 : 0 ≤ c) (c1 : c < 100) : ∃ m2 : zMm, Z e (d + 2) 89 0 [.ref 191, .int (iI a), .int (iI c)] [] m = ri (wayS (m 247) a c) m2 ∧ Rng m2 ∧ (∀ k', ¬ k' = 194 → ¬ k' = 193 → m2 k' = m k') := by
  obtain ⟨m2, h1, h2, h3, h4⟩ := R_spread (e := e) (d := d) (m := m) (a2 := 194) ⟨hs_194, by decide⟩ (by decide) (by decide) (by decide) (by decide) hr (fun c g0 g1 => (hG c g0 g1).1) hB a0 a1
  refine ⟨m2, ?_, h3, h4⟩
  rw [b_89_0, h1, rn_k, b_89_9, ← wayS_eq h2 c0 c1]
  simp (disch := first | omega | (simp (disch := first | decide | omega) only [um_k, um_e, um_i, uz_k]; omega) | exact cat_i | exact cat_u | exact cat_r | assumption | exact rfl) only [h3 _ _, wr_of, ↓reduceIte, ck_T, lt_T, lt_F, le_T, le_F, eq_T, eq_F, and_true, true_and, and_false, false_and, or_true, true_or, or_false, false_or, and_self, or_self, not_true_eq_false, not_false_eq_true, implies_true, forall_const, true_implies, false_implies, ri_k, rn_k, rr_k, wr_bi, bi_e0, bi_e1, bi_T, bi_F, Classical.not_not, itp, itn, ck_t]
theorem call_between {a c w : Int} (hI : Inv m) (ha : wr a = a) (hc : wr c = c) (hw : wr w = w) : Both (Z e (d + 3) 141 0 [.ref 0, .int (iI (a)), .int (iI (c)), .int (iI (w))] []) (Z e (d + 4) 213 0 [.ref 246, .int (iI (a)), .int (iI (c)), .int (iI (w))] []) m := by
  obtain ⟨hr, ⟨iN, iG, iP, iH, iS, iD, iT, iO, iU, iR, iV⟩, iK, iL, iF, iB, iA, iW, iX⟩ := id hI
  have bN := iN
  unfold cNum at bN
  by_cases h1 : 0 ≤ a ∧ a < 100 ∧ 0 ≤ c ∧ c < 100 ∧ 0 ≤ w ∧ w ≤ 1
  · by_cases h2 : w = 1
    · refine Both.same hI (jfar a c) ?_ ?_
      · simp (disch := first | omega | (simp (disch := first | decide | omega) only [um_k, um_e, um_i, uz_k]; omega) | exact cat_i | exact cat_u | exact cat_r | assumption | exact rfl) only [b_141_0, ha, hc, hw, wr_of, ↓reduceIte, ck_T, lt_T, lt_F, le_T, le_F, eq_T, eq_F, and_true, true_and, and_false, false_and, or_true, true_or, or_false, false_or, and_self, or_self, not_true_eq_false, not_false_eq_true, implies_true, forall_const, true_implies, false_implies, ri_k, rn_k, rr_k, wr_bi, bi_e0, bi_e1, bi_T, bi_F, Classical.not_not, itp, itn, ck_t]
      · simp (disch := first | omega | (simp (disch := first | decide | omega) only [um_k, um_e, um_i, uz_k]; omega) | exact cat_i | exact cat_u | exact cat_r | assumption | exact rfl) only [b_213_0, ha, hc, hw, wr_of, ↓reduceIte, ck_T, lt_T, lt_F, le_T, le_F, eq_T, eq_F, and_true, true_and, and_false, false_and, or_true, true_or, or_false, false_or, and_self, or_self, not_true_eq_false, not_false_eq_true, implies_true, forall_const, true_implies, false_implies, ri_k, rn_k, rr_k, wr_bi, bi_e0, bi_e1, bi_T, bi_F, Classical.not_not, itp, itn, ck_t]
    · obtain ⟨m1, p1, p2, p3⟩ := way_ok (e := e) (d := d) (m := m) hr iG iB h1.1 h1.2.1 h1.2.2.1 h1.2.2.2.1
      obtain ⟨m2, q1, q2, q3, q4, q5⟩ := findWays_ok (e := e) (d := d) (m := m1) p2 h1.1 h1.2.1
      have e247 : m1 247 = m 247 := p3 247 (by decide) (by decide)
      rw [e247] at q2
      refine ⟨wayS (m 247) a c, m1, m2, ?_, ?_, ?_⟩
      · simp (disch := first | omega | (simp (disch := first | decide | omega) only [um_k, um_e, um_i, uz_k]; omega) | exact cat_i | exact cat_u | exact cat_r | assumption | exact rfl) only [b_141_0, ha, hc, hw, p1, b_141_47, wr_of, ↓reduceIte, ck_T, lt_T, lt_F, le_T, le_F, eq_T, eq_F, and_true, true_and, and_false, false_and, or_true, true_or, or_false, false_or, and_self, or_self, not_true_eq_false, not_false_eq_true, implies_true, forall_const, true_implies, false_implies, ri_k, rn_k, rr_k, wr_bi, bi_e0, bi_e1, bi_T, bi_F, Classical.not_not, itp, itn, ck_t]
      · rw [← wayS_eq q2 h1.2.2.1 h1.2.2.2.1]
        unfold wy
        simp (disch := first | omega | (simp (disch := first | decide | omega) only [um_k, um_e, um_i, uz_k]; omega) | exact cat_i | exact cat_u | exact cat_r | assumption | exact rfl) only [b_213_0, b_213_41, ha, hc, hw, q1, q4 _ _, wr_of, ↓reduceIte, ck_T, lt_T, lt_F, le_T, le_F, eq_T, eq_F, and_true, true_and, and_false, false_and, or_true, true_or, or_false, false_or, and_self, or_self, not_true_eq_false, not_false_eq_true, implies_true, forall_const, true_implies, false_implies, ri_k, rn_k, rr_k, wr_bi, bi_e0, bi_e1, bi_T, bi_F, Classical.not_not, itp, itn, ck_t]
      · exact Inv_scr (Inv_scr hI p2 (fun k g => p3 k (by unfold scr at g; omega) (by unfold scr at g; omega))) q4 (fun k g => q5 k (by unfold scr at g; omega) (by unfold scr at g; omega))
  · refine Both.same hI (-1) ?_ ?_
    · simp (disch := first | omega | (simp (disch := first | decide | omega) only [um_k, um_e, um_i, uz_k]; omega) | exact cat_i | exact cat_u | exact cat_r | assumption | exact rfl) only [b_141_0, ha, hc, hw, wr_of, ↓reduceIte, ck_T, lt_T, lt_F, le_T, le_F, eq_T, eq_F, and_true, true_and, and_false, false_and, or_true, true_or, or_false, false_or, and_self, or_self, not_true_eq_false, not_false_eq_true, implies_true, forall_const, true_implies, false_implies, ri_k, rn_k, rr_k, wr_bi, bi_e0, bi_e1, bi_T, bi_F, Classical.not_not, itp, itn, ck_t]
    · simp (disch := first | omega | (simp (disch := first | decide | omega) only [um_k, um_e, um_i, uz_k]; omega) | exact cat_i | exact cat_u | exact cat_r | assumption | exact rfl) only [b_213_0, ha, hc, hw, wr_of, ↓reduceIte, ck_T, lt_T, lt_F, le_T, le_F, eq_T, eq_F, and_true, true_and, and_false, false_and, or_true, true_or, or_false, false_or, and_self, or_self, not_true_eq_false, not_false_eq_true, implies_true, forall_const, true_implies, false_implies, ri_k, rn_k, rr_k, wr_bi, bi_e0, bi_e1, bi_T, bi_F, Classical.not_not, itp, itn, ck_t]
end BT
