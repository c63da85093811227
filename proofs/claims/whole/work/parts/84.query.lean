/-! within, degree, rule, line, counts. -/
section QY
variable {e : List Int32 × Value} {d : Nat} {m : zMm}
theorem Inv_ref {m' : zMm} (hI : Inv m) (R : RM m m') : Inv m' := by
  obtain ⟨hr, ⟨iN, iG, iP, iH, iS, iD, iT, iO, iU, iR, iV⟩, iK, iL, iF, iB, iA, iW, iX⟩ := id hI
  have bN := iN
  unfold cNum at bN
  obtain ⟨r1, r2, r3, r4⟩ := R
  have hC : Core m (m 247) := ⟨iN, iG, iP, iH, iS, iD, iT, iO, iU, iR, iV⟩
  have f : ∀ k, ¬ (k = 246 ∨ k = 252 ∨ k = 253 ∨ k = 254 ∨ k = 258 ∨ k = 259) → m' k = m k := r2
  have f0 := f 0 (by omega)
  have f247 := f 247 (by omega)
  have f248 := f 248 (by omega)
  refine ⟨r1, ?_, ?_, ?_, ?_, ?_, ?_, ?_, ?_⟩
  · exact Core_cg (fun k _ _ => f k (by omega)) (fun i _ _ => by rw [f247]) hC
  · exact Kept_cg (by rw [f0]) (r3 2 (by decide)) (fun k _ _ => f k (by omega)) f248 iK
  · exact LawOK_cg (f 202 (by omega)) (f 204 (by omega)) (f 205 (by omega)) (fun k _ _ => f k (by omega)) (by omega) (by rw [f247]) iL
  · unfold RefOK at iF ⊢
    rw [r3 13 (by decide), r3 14 (by decide), f247]
    exact ⟨iF.1, iF.2.1, r4⟩
  · exact beside_cg (f 192 (by omega)) iB
  · exact Tape_cg (by rw [f 179 (by omega)]) (r3 4 (by decide)) (f 180 (by omega)) (f 249 (by omega)) iA
  · exact Rows_cg (by rw [f 230 (by omega)]) (r3 7 (by decide)) (r3 8 (by decide)) (by rw [f 226 (by omega)]) (by rw [f 232 (by omega)]) (f 231 (by omega)) (f 250 (by omega)) (f 233 (by omega)) (f 251 (by omega)) iW
  · exact Host_cg (fun k _ _ => f k (by omega)) (by rw [f 234 (by omega)]) (r3 35 (by decide)) (fun k _ _ => f k (by omega)) iX
theorem RM.refl (hI : Inv m) : RM m m := ⟨hI.1, fun _ _ => rfl, fun _ _ => rfl, hI.2.2.2.2.1.2.2⟩
theorem mil_of {h : Int} (hI : Inv m) : mil m h (mile (m 247) (-1) h) := by
  have q := hI.2.2.2.2.1
  unfold RefOK at q
  exact Or.inl ⟨Or.inl (by omega), by rw [q.1]⟩
theorem o_of (hI : Inv m) : m 246 13 = -1 := hI.2.2.2.2.1.1
theorem AS_n {h : Int} {m' : zMm} (a : AS (m 247) h m m') : m' 247 = m 247 := a.1 247 (by unfold lwk; omega)
theorem AS_LX {h : Int} {m' : zMm} (hI : Inv m) (a : AS (m 247) h m m') : LX (-1) h m' := by
  have hI1 := AS_Inv hI a
  have e := AS_n a
  refine ⟨hI1.2.1, hI1.1, ?_, ?_⟩
  · rw [e]; exact a.2.2.2.2.1
  · rw [e]; exact a.2.2.2.2.2
theorem X_about {h c o mi : Int} (X : LXm o h mi m) (c0 : 0 ≤ c) (c1 : c < 100) : Z e (d + 2) 22 0 [.ref 202, .int (iI c), .retAddr 0, .retAddr 0, .retAddr 0, .retAddr 0] [] m = ri (abt (m 247) mi (strt (m 247) o h) c) m := by
  obtain ⟨⟨iN, iG, iP, iH, iS, iD, iT, iO, iU, iR, iV⟩, hr, lw, ga⟩ := X
  exact L_about hr iN iS lw.1 ga.2.2.1 ga.2.2.2.1 (strt_01 (vB_of iN iV)) c0 c1
theorem X_degree {h c o mi : Int} (X : LXm o h mi m) (c0 : 0 ≤ c) (c1 : c < 100) : Z e (d + 3) 23 0 [.ref 202, .int (iI c), .retAddr 0, .retAddr 0, .retAddr 0] [] m = ri (deg (m 247) mi (strt (m 247) o h) c) m := by
  obtain ⟨⟨iN, iG, iP, iH, iS, iD, iT, iO, iU, iR, iV⟩, hr, lw, ga⟩ := X
  exact L_degree hr iN iS iG lw.1 ga.2.2.1 ga.2.2.2.1 (strt_01 (vB_of iN iV)) c0 c1
theorem call_within {c h : Int} (hI : Inv m) (hc : wr c = c) (hh : wr h = h) : Both (Z e (d + 5) 146 0 [.ref 0, .int (iI (c)), .int (iI (h))] []) (Z e (d + 6) 224 0 [.ref 246, .int (iI (c)), .int (iI (h))] []) m := by
  by_cases h1 : 0 ≤ c ∧ c < 100 ∧ 0 ≤ h ∧ h ≤ 9999
  · obtain ⟨m1, a1, a2⟩ := asAt_ok (e := e) (d := d) hI hh
    have hI1 := AS_Inv hI a2
    have ab := X_about (e := e) (d := d + 2) (AS_LX hI a2) h1.1 h1.2.1
    obtain ⟨m2, b1, b2, _⟩ := withinOf_ok (e := e) (d := d) hI1.2.1 hI1.1 (RM.refl hI1) hh h1.1 h1.2.1 (mil_of hI1)
    rw [o_of hI1] at b1
    refine ⟨abt (m1 247) (mile (m1 247) (-1) h) (strt (m1 247) (-1) h) c, m1, m2, ?_, ?_, Inv_ref hI1 b2⟩
    · simp (disch := first | omega | (simp (disch := first | decide | omega) only [um_k, um_e, um_i, uz_k]; omega) | exact cat_i | exact cat_u | exact cat_r | assumption | exact rfl) only [b_146_0, b_146_24, b_146_32, hc, hh, a1, ab, wr_of, ↓reduceIte, ck_T, lt_T, lt_F, le_T, le_F, eq_T, eq_F, and_true, true_and, and_false, false_and, or_true, true_or, or_false, false_or, and_self, or_self, not_true_eq_false, not_false_eq_true, implies_true, forall_const, true_implies, false_implies, ri_k, rn_k, rr_k, wr_bi, bi_e0, bi_e1, bi_T, bi_F, Classical.not_not, itp, itn, ck_t]
    · simp (disch := first | omega | (simp (disch := first | decide | omega) only [um_k, um_e, um_i, uz_k]; omega) | exact cat_i | exact cat_u | exact cat_r | assumption | exact rfl) only [b_224_0, b_224_24, hc, hh, b1, wr_of, ↓reduceIte, ck_T, lt_T, lt_F, le_T, le_F, eq_T, eq_F, and_true, true_and, and_false, false_and, or_true, true_or, or_false, false_or, and_self, or_self, not_true_eq_false, not_false_eq_true, implies_true, forall_const, true_implies, false_implies, ri_k, rn_k, rr_k, wr_bi, bi_e0, bi_e1, bi_T, bi_F, Classical.not_not, itp, itn, ck_t]
  · refine Both.same hI (-1) ?_ ?_
    · simp (disch := first | omega | (simp (disch := first | decide | omega) only [um_k, um_e, um_i, uz_k]; omega) | exact cat_i | exact cat_u | exact cat_r | assumption | exact rfl) only [b_146_0, hc, hh, wr_of, ↓reduceIte, ck_T, lt_T, lt_F, le_T, le_F, eq_T, eq_F, and_true, true_and, and_false, false_and, or_true, true_or, or_false, false_or, and_self, or_self, not_true_eq_false, not_false_eq_true, implies_true, forall_const, true_implies, false_implies, ri_k, rn_k, rr_k, wr_bi, bi_e0, bi_e1, bi_T, bi_F, Classical.not_not, itp, itn, ck_t]
    · simp (disch := first | omega | (simp (disch := first | decide | omega) only [um_k, um_e, um_i, uz_k]; omega) | exact cat_i | exact cat_u | exact cat_r | assumption | exact rfl) only [b_224_0, hc, hh, wr_of, ↓reduceIte, ck_T, lt_T, lt_F, le_T, le_F, eq_T, eq_F, and_true, true_and, and_false, false_and, or_true, true_or, or_false, false_or, and_self, or_self, not_true_eq_false, not_false_eq_true, implies_true, forall_const, true_implies, false_implies, ri_k, rn_k, rr_k, wr_bi, bi_e0, bi_e1, bi_T, bi_F, Classical.not_not, itp, itn, ck_t]
theorem call_degree {c h : Int} (hI : Inv m) (hc : wr c = c) (hh : wr h = h) : Both (Z e (d + 5) 147 0 [.ref 0, .int (iI (c)), .int (iI (h))] []) (Z e (d + 7) 226 0 [.ref 246, .int (iI (c)), .int (iI (h))] []) m := by
  by_cases h1 : 0 ≤ c ∧ c < 100 ∧ 0 ≤ h ∧ h ≤ 9999
  · obtain ⟨m1, a1, a2⟩ := asAt_ok (e := e) (d := d) hI hh
    have hI1 := AS_Inv hI a2
    have ab := X_degree (e := e) (d := d + 1) (AS_LX hI a2) h1.1 h1.2.1
    obtain ⟨m2, b1, b2, _⟩ := M_degree (e := e) (d := d) hI1.2.1 hI1.1 (RM.refl hI1) hh h1.1 h1.2.1 (mil_of hI1)
    rw [o_of hI1] at b1
    refine ⟨deg (m1 247) (mile (m1 247) (-1) h) (strt (m1 247) (-1) h) c, m1, m2, ?_, ?_, Inv_ref hI1 b2⟩
    · simp (disch := first | omega | (simp (disch := first | decide | omega) only [um_k, um_e, um_i, uz_k]; omega) | exact cat_i | exact cat_u | exact cat_r | assumption | exact rfl) only [b_147_0, b_147_24, b_147_32, hc, hh, a1, ab, wr_of, ↓reduceIte, ck_T, lt_T, lt_F, le_T, le_F, eq_T, eq_F, and_true, true_and, and_false, false_and, or_true, true_or, or_false, false_or, and_self, or_self, not_true_eq_false, not_false_eq_true, implies_true, forall_const, true_implies, false_implies, ri_k, rn_k, rr_k, wr_bi, bi_e0, bi_e1, bi_T, bi_F, Classical.not_not, itp, itn, ck_t]
    · simp (disch := first | omega | (simp (disch := first | decide | omega) only [um_k, um_e, um_i, uz_k]; omega) | exact cat_i | exact cat_u | exact cat_r | assumption | exact rfl) only [b_226_0, b_226_24, hc, hh, b1, wr_of, ↓reduceIte, ck_T, lt_T, lt_F, le_T, le_F, eq_T, eq_F, and_true, true_and, and_false, false_and, or_true, true_or, or_false, false_or, and_self, or_self, not_true_eq_false, not_false_eq_true, implies_true, forall_const, true_implies, false_implies, ri_k, rn_k, rr_k, wr_bi, bi_e0, bi_e1, bi_T, bi_F, Classical.not_not, itp, itn, ck_t]
  · refine Both.same hI (-1) ?_ ?_
    · simp (disch := first | omega | (simp (disch := first | decide | omega) only [um_k, um_e, um_i, uz_k]; omega) | exact cat_i | exact cat_u | exact cat_r | assumption | exact rfl) only [b_147_0, hc, hh, wr_of, ↓reduceIte, ck_T, lt_T, lt_F, le_T, le_F, eq_T, eq_F, and_true, true_and, and_false, false_and, or_true, true_or, or_false, false_or, and_self, or_self, not_true_eq_false, not_false_eq_true, implies_true, forall_const, true_implies, false_implies, ri_k, rn_k, rr_k, wr_bi, bi_e0, bi_e1, bi_T, bi_F, Classical.not_not, itp, itn, ck_t]
    · simp (disch := first | omega | (simp (disch := first | decide | omega) only [um_k, um_e, um_i, uz_k]; omega) | exact cat_i | exact cat_u | exact cat_r | assumption | exact rfl) only [b_226_0, hc, hh, wr_of, ↓reduceIte, ck_T, lt_T, lt_F, le_T, le_F, eq_T, eq_F, and_true, true_and, and_false, false_and, or_true, true_or, or_false, false_or, and_self, or_self, not_true_eq_false, not_false_eq_true, implies_true, forall_const, true_implies, false_implies, ri_k, rn_k, rr_k, wr_bi, bi_e0, bi_e1, bi_T, bi_F, Classical.not_not, itp, itn, ck_t]
theorem call_rule {h w : Int} (hI : Inv m) (hh : wr h = h) (hw : wr w = w) : Both (Z e (d + 5) 152 0 [.ref 0, .int (iI (h)), .int (iI (w))] []) (Z e (d + 4) 222 0 [.ref 246, .int (iI (h)), .int (iI (w))] []) m := by
  by_cases h1 : 0 ≤ h ∧ h ≤ 9999 ∧ 0 ≤ w ∧ w ≤ 2
  · obtain ⟨m1, a1, a2⟩ := asAt_ok (e := e) (d := d) hI hh
    have hI1 := AS_Inv hI a2
    have hB := vB_of hI1.2.1.1 hI1.2.1.2.2.2.2.2.2.2.2.2.2
    obtain ⟨_, _, _, G1, G2, G3, G4, G5⟩ := AS_LX hI a2
    have s01 := strt_01 (N := m1 247) (o := -1) (h := h) hB
    have r1 := hI1.1
    have w3 : w = 0 ∨ w = 1 ∨ w = 2 := by omega
    rcases w3 with z | z | z <;> subst z
    · have b1 := ruled_0 (e := e) (d := d) (m := m1) hI1.1 hB hh
      rw [o_of hI1] at b1
      refine ⟨mile (m1 247) (-1) h, m1, m1, ?_, ?_, hI1⟩
      · simp (disch := first | omega | (simp (disch := first | decide | omega) only [um_k, um_e, um_i, uz_k]; omega) | exact cat_i | exact cat_u | exact cat_r | assumption | exact rfl) only [b_152_0, b_152_26, hh, a1, G3, wr_of, ↓reduceIte, ck_T, lt_T, lt_F, le_T, le_F, eq_T, eq_F, and_true, true_and, and_false, false_and, or_true, true_or, or_false, false_or, and_self, or_self, not_true_eq_false, not_false_eq_true, implies_true, forall_const, true_implies, false_implies, ri_k, rn_k, rr_k, wr_bi, bi_e0, bi_e1, bi_T, bi_F, Classical.not_not, itp, itn, ck_t]
      · simp (disch := first | omega | (simp (disch := first | decide | omega) only [um_k, um_e, um_i, uz_k]; omega) | exact cat_i | exact cat_u | exact cat_r | assumption | exact rfl) only [b_222_0, b_222_26, hh, b1, wr_of, ↓reduceIte, ck_T, lt_T, lt_F, le_T, le_F, eq_T, eq_F, and_true, true_and, and_false, false_and, or_true, true_or, or_false, false_or, and_self, or_self, not_true_eq_false, not_false_eq_true, implies_true, forall_const, true_implies, false_implies, ri_k, rn_k, rr_k, wr_bi, bi_e0, bi_e1, bi_T, bi_F, Classical.not_not, itp, itn, ck_t]
    · have b1 := ruled_1 (e := e) (d := d) (m := m1) hI1.1 hB hh
      rw [o_of hI1] at b1
      refine ⟨strt (m1 247) (-1) h, m1, m1, ?_, ?_, hI1⟩
      · rcases s01 with z | z
        · simp (disch := first | omega | (simp (disch := first | decide | omega) only [um_k, um_e, um_i, uz_k]; omega) | exact cat_i | exact cat_u | exact cat_r | assumption | exact rfl) only [b_152_0, b_152_26, hh, a1, G4, z, wr_of, ↓reduceIte, ck_T, lt_T, lt_F, le_T, le_F, eq_T, eq_F, and_true, true_and, and_false, false_and, or_true, true_or, or_false, false_or, and_self, or_self, not_true_eq_false, not_false_eq_true, implies_true, forall_const, true_implies, false_implies, ri_k, rn_k, rr_k, wr_bi, bi_e0, bi_e1, bi_T, bi_F, Classical.not_not, itp, itn, ck_t]
        · simp (disch := first | omega | (simp (disch := first | decide | omega) only [um_k, um_e, um_i, uz_k]; omega) | exact cat_i | exact cat_u | exact cat_r | assumption | exact rfl) only [b_152_0, b_152_26, hh, a1, G4, z, wr_of, ↓reduceIte, ck_T, lt_T, lt_F, le_T, le_F, eq_T, eq_F, and_true, true_and, and_false, false_and, or_true, true_or, or_false, false_or, and_self, or_self, not_true_eq_false, not_false_eq_true, implies_true, forall_const, true_implies, false_implies, ri_k, rn_k, rr_k, wr_bi, bi_e0, bi_e1, bi_T, bi_F, Classical.not_not, itp, itn, ck_t]
      · simp (disch := first | omega | (simp (disch := first | decide | omega) only [um_k, um_e, um_i, uz_k]; omega) | exact cat_i | exact cat_u | exact cat_r | assumption | exact rfl) only [b_222_0, b_222_26, hh, b1, wr_of, ↓reduceIte, ck_T, lt_T, lt_F, le_T, le_F, eq_T, eq_F, and_true, true_and, and_false, false_and, or_true, true_or, or_false, false_or, and_self, or_self, not_true_eq_false, not_false_eq_true, implies_true, forall_const, true_implies, false_implies, ri_k, rn_k, rr_k, wr_bi, bi_e0, bi_e1, bi_T, bi_F, Classical.not_not, itp, itn, ck_t]
    · have b1 := ruled_2 (e := e) (d := d) (m := m1) hI1.1 hB hh
      rw [o_of hI1] at b1
      refine ⟨fort (m1 247) (-1) h, m1, m1, ?_, ?_, hI1⟩
      · simp (disch := first | omega | (simp (disch := first | decide | omega) only [um_k, um_e, um_i, uz_k]; omega) | exact cat_i | exact cat_u | exact cat_r | assumption | exact rfl) only [b_152_0, b_152_26, hh, a1, G5, wr_of, ↓reduceIte, ck_T, lt_T, lt_F, le_T, le_F, eq_T, eq_F, and_true, true_and, and_false, false_and, or_true, true_or, or_false, false_or, and_self, or_self, not_true_eq_false, not_false_eq_true, implies_true, forall_const, true_implies, false_implies, ri_k, rn_k, rr_k, wr_bi, bi_e0, bi_e1, bi_T, bi_F, Classical.not_not, itp, itn, ck_t]
      · simp (disch := first | omega | (simp (disch := first | decide | omega) only [um_k, um_e, um_i, uz_k]; omega) | exact cat_i | exact cat_u | exact cat_r | assumption | exact rfl) only [b_222_0, b_222_26, hh, b1, wr_of, ↓reduceIte, ck_T, lt_T, lt_F, le_T, le_F, eq_T, eq_F, and_true, true_and, and_false, false_and, or_true, true_or, or_false, false_or, and_self, or_self, not_true_eq_false, not_false_eq_true, implies_true, forall_const, true_implies, false_implies, ri_k, rn_k, rr_k, wr_bi, bi_e0, bi_e1, bi_T, bi_F, Classical.not_not, itp, itn, ck_t]
  · refine Both.same hI (-1) ?_ ?_
    · simp (disch := first | omega | (simp (disch := first | decide | omega) only [um_k, um_e, um_i, uz_k]; omega) | exact cat_i | exact cat_u | exact cat_r | assumption | exact rfl) only [b_152_0, hh, hw, wr_of, ↓reduceIte, ck_T, lt_T, lt_F, le_T, le_F, eq_T, eq_F, and_true, true_and, and_false, false_and, or_true, true_or, or_false, false_or, and_self, or_self, not_true_eq_false, not_false_eq_true, implies_true, forall_const, true_implies, false_implies, ri_k, rn_k, rr_k, wr_bi, bi_e0, bi_e1, bi_T, bi_F, Classical.not_not, itp, itn, ck_t]
    · simp (disch := first | omega | (simp (disch := first | decide | omega) only [um_k, um_e, um_i, uz_k]; omega) | exact cat_i | exact cat_u | exact cat_r | assumption | exact rfl) only [b_222_0, hh, hw, wr_of, ↓reduceIte, ck_T, lt_T, lt_F, le_T, le_F, eq_T, eq_F, and_true, true_and, and_false, false_and, or_true, true_or, or_false, false_or, and_self, or_self, not_true_eq_false, not_false_eq_true, implies_true, forall_const, true_implies, false_implies, ri_k, rn_k, rr_k, wr_bi, bi_e0, bi_e1, bi_T, bi_F, Classical.not_not, itp, itn, ck_t]
end QY
