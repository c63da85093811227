/-! Sheets and shelves. -/
section HO
variable {e : List Int32 × Value} {d : Nat} {m : zMm}
theorem Inv_host {m2 : zMm} (hI : Inv m) (hr2 : Rng m2) (hF : ∀ k, k < 234 ∨ (246 < k ∧ k < 261) → m2 k = m k) (h246 : ∀ i, i < 35 → m2 246 i = m 246 i) (hX : Host m2) : Inv m2 := by
  obtain ⟨hr, ⟨iN, iG, iP, iH, iS, iD, iT, iO, iU, iR, iV⟩, iK, iL, iF, iB, iA, iW, iX⟩ := id hI
  have bN := iN
  unfold cNum at bN
  have hn : m2 247 = m 247 := hF 247 (by omega)
  refine ⟨hr2, Core_cg (fun k _ _ => hF k (by omega)) (fun i _ _ => by rw [hn]) ⟨iN, iG, iP, iH, iS, iD, iT, iO, iU, iR, iV⟩, Kept_cg (by rw [hF 0 (by omega)]) (h246 2 (by decide)) (fun k _ _ => hF k (by omega)) (hF 248 (by omega)) iK, LawOK_cg (hF 202 (by omega)) (hF 204 (by omega)) (hF 205 (by omega)) (fun k _ _ => hF k (by omega)) (by omega) (by rw [hn]) iL, RefOK_cg (h246 12 (by decide)) (h246 13 (by decide)) (h246 14 (by decide)) (hF 254 (by omega)) (by rw [hn]) iF, beside_cg (hF 192 (by omega)) iB, Tape_cg (by rw [hF 179 (by omega)]) (h246 4 (by decide)) (hF 180 (by omega)) (hF 249 (by omega)) iA, Rows_cg (by rw [hF 230 (by omega)]) (h246 7 (by decide)) (h246 8 (by decide)) (by rw [hF 226 (by omega)]) (by rw [hF 232 (by omega)]) (hF 231 (by omega)) (hF 250 (by omega)) (hF 233 (by omega)) (hF 251 (by omega)) iW, hX⟩
theorem fill_ok {a : Nat} {n : Nat} {x : Int} (hA : zArr a n) (hn : n ≤ 100000) : ∃ m', Z e d 332 0 [.ref a, .int (iI x), .retAddr 0, .retAddr 0] [] m = rn m' ∧ Fill m a (fun i => i) (fun _ => x) n m' := by
  obtain ⟨m', h1, h2⟩ := lpM (m := m) (c := a) (ix := fun i => i) (g := fun _ => x) (n := n) (F := fun i m' => Z e d 332 5 [.ref a, .int (iI x), .int (iI i), .int (iI n)] [] m') (by omega) (fun p q _ _ _ => by omega) (by
    intro i m' g1 g2 A
    refine (b_332_5 hA).trans ?_
    simp (disch := first | omega | (simp (disch := first | decide | omega) only [um_k, um_e, um_i, uz_k]; omega) | exact cat_i | exact cat_u | exact cat_r | assumption | exact rfl) only [wr_of, ↓reduceIte, ck_T, lt_T, lt_F, le_T, le_F, eq_T, eq_F, and_true, true_and, and_false, false_and, or_true, true_or, or_false, false_or, and_self, or_self, not_true_eq_false, not_false_eq_true, implies_true, forall_const, true_implies, false_implies, ri_k, rn_k, rr_k, wr_bi, bi_e0, bi_e1, bi_T, bi_F, Classical.not_not, itp, itn, ck_t])
  refine ⟨m', ?_, h2⟩
  rw [b_332_0 hA, h1]
  refine (b_332_5 hA).trans ?_
  simp (disch := first | omega | (simp (disch := first | decide | omega) only [um_k, um_e, um_i, uz_k]; omega) | exact cat_i | exact cat_u | exact cat_r | assumption | exact rfl) only [wr_of, ↓reduceIte, ck_T, lt_T, lt_F, le_T, le_F, eq_T, eq_F, and_true, true_and, and_false, false_and, or_true, true_or, or_false, false_or, and_self, or_self, not_true_eq_false, not_false_eq_true, implies_true, forall_const, true_implies, false_implies, ri_k, rn_k, rr_k, wr_bi, bi_e0, bi_e1, bi_T, bi_F, Classical.not_not, itp, itn, ck_t]
theorem call_sheet {s t n : Int} (hI : Inv m) (hs : wr s = s) (ht : wr t = t) (hn : wr n = n) : Both (Z e (d + 2) 183 0 [.ref 0, .int (iI (s)), .int (iI (t)), .int (iI (n))] []) (Z e (d + 2) 301 0 [.ref 246, .int (iI (s)), .int (iI (t)), .int (iI (n)), .retAddr 0] []) m := by
  obtain ⟨hr, ⟨iN, iG, iP, iH, iS, iD, iT, iO, iU, iR, iV⟩, iK, iL, iF, iB, iA, iW, iX⟩ := id hI
  have bN := iN
  unfold cNum at bN
  by_cases h1 : 0 ≤ s ∧ s < 4 ∧ -1 ≤ t ∧ t ≤ 4 ∧ (t = -1 ∨ n ≤ 40)
  · by_cases h2 : t = -1 ∨ 0 ≤ n
    · obtain ⟨ma, a1, a2⟩ := fill_ok (e := e) (d := d) (m := um (um m 235 s t) 236 s (if t = -1 then 0 else n)) (x := 0) (zArr_237 (j := s) ⟨h1.1, h1.2.1⟩) (by decide)
      have fa : ∀ k, ¬ k = 235 → ¬ k = 236 → ¬ k = 238 + s.toNat → ma k = m k := fun k q1 q2 q3 => by rw [a2.1 k q3]; simp (disch := first | omega | (simp (disch := first | decide | omega) only [um_k, um_e, um_i, uz_k]; omega) | exact cat_i | exact cat_u | exact cat_r | assumption | exact rfl) only [um_r, um_k, um_i, um_e, uz_r, uz_k, uz_i, uz_in]
      have n0 : 0 ≤ (if t = -1 then 0 else n) ∧ (if t = -1 then 0 else n) ≤ 40 := by split <;> omega
      have ra : Rng ma := Fill.rng ((hr.um ht).um (wr_of (by omega) (by omega))) (fun _ _ _ => rfl) a2
      obtain ⟨mb, b1, b2⟩ := lpM (m := um (um ma 261 s t) 262 s (if t = -1 then 0 else n)) (c := 263) (ix := fun k => 40 * s + k) (g := fun _ => 0) (n := 40) (F := fun i m' => Z e (d + 2) 301 64 [.ref 246, .int (iI s), .int (iI t), .int (iI n), .int (iI i)] [] m') (by decide) (fun p q _ _ _ => by omega) (by
        intro i m' g1 g2 A
        refine (b_301_64 cat_i).trans ?_
        simp (disch := first | omega | (simp (disch := first | decide | omega) only [um_k, um_e, um_i, uz_k]; omega) | exact cat_i | exact cat_u | exact cat_r | assumption | exact rfl) only [wr_of, ↓reduceIte, ck_T, lt_T, lt_F, le_T, le_F, eq_T, eq_F, and_true, true_and, and_false, false_and, or_true, true_or, or_false, false_or, and_self, or_self, not_true_eq_false, not_false_eq_true, implies_true, forall_const, true_implies, false_implies, ri_k, rn_k, rr_k, wr_bi, bi_e0, bi_e1, bi_T, bi_F, Classical.not_not, itp, itn, ck_t])
      have rb : Rng mb := Fill.rng ((ra.um ht).um (wr_of (by omega) (by omega))) (fun _ _ _ => rfl) b2
      have fb : ∀ k, ¬ k = 263 → ¬ k = 261 → ¬ k = 262 → mb k = ma k := fun k q1 q2 q3 => by rw [b2.1 k q1]; simp (disch := first | omega | (simp (disch := first | decide | omega) only [um_k, um_e, um_i, uz_k]; omega) | exact cat_i | exact cat_u | exact cat_r | assumption | exact rfl) only [um_r, um_k, um_i, um_e, uz_r, uz_k, uz_i, uz_in]
      have b3 : Z e (d + 2) 301 64 [.ref 246, .int (iI s), .int (iI t), .int (iI n), .int (iI 40)] [] mb = ri 1 mb := by
        refine (b_301_64 cat_i).trans ?_
        simp (disch := first | omega | (simp (disch := first | decide | omega) only [um_k, um_e, um_i, uz_k]; omega) | exact cat_i | exact cat_u | exact cat_r | assumption | exact rfl) only [wr_of, ↓reduceIte, ck_T, lt_T, lt_F, le_T, le_F, eq_T, eq_F, and_true, true_and, and_false, false_and, or_true, true_or, or_false, false_or, and_self, or_self, not_true_eq_false, not_false_eq_true, implies_true, forall_const, true_implies, false_implies, ri_k, rn_k, rr_k, wr_bi, bi_e0, bi_e1, bi_T, bi_F, Classical.not_not, itp, itn, ck_t]
      have tt : (if t < 0 then (0 : Int) else n) = if t = -1 then 0 else n := by
        by_cases q : t = -1
        · rw [itp q, itp (by omega)]
        · rw [itn q, itn (by omega)]
      refine ⟨1, ma, mb, ?_, ?_, ?_⟩
      · simp (disch := first | omega | (simp (disch := first | decide | omega) only [um_k, um_e, um_i, uz_k]; omega) | exact cat_i | exact cat_u | exact cat_r | assumption | exact rfl) only [b_183_0, b_183_54, b_3_0, b_3_33, hs, ht, hn, hr _ _, wr_of, ↓reduceIte, ck_T, lt_T, lt_F, le_T, le_F, eq_T, eq_F, and_true, true_and, and_false, false_and, or_true, true_or, or_false, false_or, and_self, or_self, not_true_eq_false, not_false_eq_true, implies_true, forall_const, true_implies, false_implies, ri_k, rn_k, rr_k, wr_bi, bi_e0, bi_e1, bi_T, bi_F, Classical.not_not, itp, itn, ck_t]
        by_cases q : t = -1
        · rw [itp q] at a1
          simp (disch := first | omega | (simp (disch := first | decide | omega) only [um_k, um_e, um_i, uz_k]; omega) | exact cat_i | exact cat_u | exact cat_r | assumption | exact rfl) only [b_3_33, b_183_54, a1, wr_of, ↓reduceIte, ck_T, lt_T, lt_F, le_T, le_F, eq_T, eq_F, and_true, true_and, and_false, false_and, or_true, true_or, or_false, false_or, and_self, or_self, not_true_eq_false, not_false_eq_true, implies_true, forall_const, true_implies, false_implies, ri_k, rn_k, rr_k, wr_bi, bi_e0, bi_e1, bi_T, bi_F, Classical.not_not, itp, itn, ck_t]
        · rw [itn q] at a1
          simp (disch := first | omega | (simp (disch := first | decide | omega) only [um_k, um_e, um_i, uz_k]; omega) | exact cat_i | exact cat_u | exact cat_r | assumption | exact rfl) only [b_3_33, b_183_54, a1, wr_of, ↓reduceIte, ck_T, lt_T, lt_F, le_T, le_F, eq_T, eq_F, and_true, true_and, and_false, false_and, or_true, true_or, or_false, false_or, and_self, or_self, not_true_eq_false, not_false_eq_true, implies_true, forall_const, true_implies, false_implies, ri_k, rn_k, rr_k, wr_bi, bi_e0, bi_e1, bi_T, bi_F, Classical.not_not, itp, itn, ck_t]
      · rw [← b3, ← b1]
        by_cases q : t = -1
        · simp (disch := first | omega | (simp (disch := first | decide | omega) only [um_k, um_e, um_i, uz_k]; omega) | exact cat_i | exact cat_u | exact cat_r | assumption | exact rfl) only [b_301_0, hs, ht, hn, wr_of, ↓reduceIte, ck_T, lt_T, lt_F, le_T, le_F, eq_T, eq_F, and_true, true_and, and_false, false_and, or_true, true_or, or_false, false_or, and_self, or_self, not_true_eq_false, not_false_eq_true, implies_true, forall_const, true_implies, false_implies, ri_k, rn_k, rr_k, wr_bi, bi_e0, bi_e1, bi_T, bi_F, Classical.not_not, itp, itn, ck_t]
        · simp (disch := first | omega | (simp (disch := first | decide | omega) only [um_k, um_e, um_i, uz_k]; omega) | exact cat_i | exact cat_u | exact cat_r | assumption | exact rfl) only [b_301_0, hs, ht, hn, wr_of, ↓reduceIte, ck_T, lt_T, lt_F, le_T, le_F, eq_T, eq_F, and_true, true_and, and_false, false_and, or_true, true_or, or_false, false_or, and_self, or_self, not_true_eq_false, not_false_eq_true, implies_true, forall_const, true_implies, false_implies, ri_k, rn_k, rr_k, wr_bi, bi_e0, bi_e1, bi_T, bi_F, Classical.not_not, itp, itn, ck_t]
      · refine Inv_host hI rb (fun k hk => by rw [fb k (by omega) (by omega) (by omega)]; exact fa k (by omega) (by omega) (by omega)) (fun i _ => by rw [fb 246 (by decide) (by decide) (by decide), fa 246 (by decide) (by decide) (by omega)]) ?_
        have q := iX
        unfold Host at q ⊢
        have m261 : ∀ x, mb 261 x = if x = s then t else m 261 x := fun x => by
          rw [b2.1 261 (by decide)]
          by_cases hx : x = s
          · simp (disch := first | omega | (simp (disch := first | decide | omega) only [um_k, um_e, um_i, uz_k]; omega) | exact cat_i | exact cat_u | exact cat_r | assumption | exact rfl) only [um_r, um_k, um_i, um_e, uz_r, uz_k, uz_i, uz_in, wr_of, ↓reduceIte, ck_T, lt_T, lt_F, le_T, le_F, eq_T, eq_F, and_true, true_and, and_false, false_and, or_true, true_or, or_false, false_or, and_self, or_self, not_true_eq_false, not_false_eq_true, implies_true, forall_const, true_implies, false_implies, ri_k, rn_k, rr_k, wr_bi, bi_e0, bi_e1, bi_T, bi_F, Classical.not_not, itp, itn, ck_t]
          · simp (disch := first | omega | (simp (disch := first | decide | omega) only [um_k, um_e, um_i, uz_k]; omega) | exact cat_i | exact cat_u | exact cat_r | assumption | exact rfl) only [um_r, um_k, um_i, um_e, uz_r, uz_k, uz_i, uz_in, wr_of, ↓reduceIte, ck_T, lt_T, lt_F, le_T, le_F, eq_T, eq_F, and_true, true_and, and_false, false_and, or_true, true_or, or_false, false_or, and_self, or_self, not_true_eq_false, not_false_eq_true, implies_true, forall_const, true_implies, false_implies, ri_k, rn_k, rr_k, wr_bi, bi_e0, bi_e1, bi_T, bi_F, Classical.not_not, itp, itn, ck_t]
            rw [fa 261 (by decide) (by decide) (by omega)]
        have m262 : ∀ x, mb 262 x = if x = s then (if t = -1 then 0 else n) else m 262 x := fun x => by
          rw [b2.1 262 (by decide)]
          by_cases hx : x = s
          · rw [itp hx, hx, um_s]
          · simp (disch := first | omega | (simp (disch := first | decide | omega) only [um_k, um_e, um_i, uz_k]; omega) | exact cat_i | exact cat_u | exact cat_r | assumption | exact rfl) only [um_r, um_k, um_i, um_e, uz_r, uz_k, uz_i, uz_in, itn hx]
            rw [fa 262 (by decide) (by decide) (by omega)]
        have m235 : ∀ x, mb 235 x = if x = s then t else m 235 x := fun x => by
          rw [fb 235 (by decide) (by decide) (by decide), a2.1 235 (by omega)]
          by_cases hx : x = s
          · simp (disch := first | omega | (simp (disch := first | decide | omega) only [um_k, um_e, um_i, uz_k]; omega) | exact cat_i | exact cat_u | exact cat_r | assumption | exact rfl) only [um_r, um_k, um_i, um_e, uz_r, uz_k, uz_i, uz_in, wr_of, ↓reduceIte, ck_T, lt_T, lt_F, le_T, le_F, eq_T, eq_F, and_true, true_and, and_false, false_and, or_true, true_or, or_false, false_or, and_self, or_self, not_true_eq_false, not_false_eq_true, implies_true, forall_const, true_implies, false_implies, ri_k, rn_k, rr_k, wr_bi, bi_e0, bi_e1, bi_T, bi_F, Classical.not_not, itp, itn, ck_t]
          · simp (disch := first | omega | (simp (disch := first | decide | omega) only [um_k, um_e, um_i, uz_k]; omega) | exact cat_i | exact cat_u | exact cat_r | assumption | exact rfl) only [um_r, um_k, um_i, um_e, uz_r, uz_k, uz_i, uz_in, wr_of, ↓reduceIte, ck_T, lt_T, lt_F, le_T, le_F, eq_T, eq_F, and_true, true_and, and_false, false_and, or_true, true_or, or_false, false_or, and_self, or_self, not_true_eq_false, not_false_eq_true, implies_true, forall_const, true_implies, false_implies, ri_k, rn_k, rr_k, wr_bi, bi_e0, bi_e1, bi_T, bi_F, Classical.not_not, itp, itn, ck_t]
        have m236 : ∀ x, mb 236 x = if x = s then (if t = -1 then 0 else n) else m 236 x := fun x => by
          rw [fb 236 (by decide) (by decide) (by decide), a2.1 236 (by omega)]
          by_cases hx : x = s
          · rw [itp hx, hx, um_s]
          · simp (disch := first | omega | (simp (disch := first | decide | omega) only [um_k, um_e, um_i, uz_k]; omega) | exact cat_i | exact cat_u | exact cat_r | assumption | exact rfl) only [um_r, um_k, um_i, um_e, uz_r, uz_k, uz_i, uz_in, itn hx]
        refine ⟨fun x g1 g2 => ?_, ?_, ?_⟩
        · have qx := q.1 x g1 g2
          rw [m261, m262, m235, m236, fb 242 (by decide) (by decide) (by decide), fb 243 (by decide) (by decide) (by decide), fb 244 (by decide) (by decide) (by decide), fb 264 (by decide) (by decide) (by decide), fb 265 (by decide) (by decide) (by decide), fb 266 (by decide) (by decide) (by decide), fa 242 (by decide) (by decide) (by omega), fa 243 (by decide) (by decide) (by omega), fa 244 (by decide) (by decide) (by omega), fa 264 (by decide) (by decide) (by omega), fa 265 (by decide) (by decide) (by omega), fa 266 (by decide) (by decide) (by omega)]
          by_cases hx : x = s
          · subst hx
            simp only [if_true]
            refine ⟨⟨trivial, by omega, by omega⟩, ⟨trivial, by omega, by omega, fun q => by rw [itp q]⟩, fun i g3 g4 => ?_, qx.2.2.2⟩
            rw [b2.2.1 i g3 g4, fb _ (by omega) (by omega) (by omega)]
            exact a2.2.1 i g3 g4
          · simp only [itn hx]
            refine ⟨qx.1, qx.2.1, fun i g3 g4 => ?_, qx.2.2.2⟩
            rw [b2.2.2 _ (fun p _ _ => by dsimp only; omega), fb _ (by omega) (by omega) (by omega), fa _ (by omega) (by omega) (by omega)]
            simp (disch := first | omega | (simp (disch := first | decide | omega) only [um_k, um_e, um_i, uz_k]; omega) | exact cat_i | exact cat_u | exact cat_r | assumption | exact rfl) only [um_r, um_k, um_i, um_e, uz_r, uz_k, uz_i, uz_in]
            rw [fa 263 (by decide) (by decide) (by omega)]
            exact qx.2.2.1 i g3 g4
        · rw [fb 234 (by decide) (by decide) (by decide), fb 246 (by decide) (by decide) (by decide), fa 234 (by decide) (by decide) (by omega), fa 246 (by decide) (by decide) (by omega)]
          exact q.2.1
        · rw [fb 245 (by decide) (by decide) (by decide), fb 246 (by decide) (by decide) (by decide), fb 267 (by decide) (by decide) (by decide), fa 245 (by decide) (by decide) (by omega), fa 246 (by decide) (by decide) (by omega), fa 267 (by decide) (by decide) (by omega)]
          exact q.2.2
    · refine Both.same hI (-14) ?_ ?_
      · simp (disch := first | omega | (simp (disch := first | decide | omega) only [um_k, um_e, um_i, uz_k]; omega) | exact cat_i | exact cat_u | exact cat_r | assumption | exact rfl) only [b_183_0, hs, ht, hn, wr_of, ↓reduceIte, ck_T, lt_T, lt_F, le_T, le_F, eq_T, eq_F, and_true, true_and, and_false, false_and, or_true, true_or, or_false, false_or, and_self, or_self, not_true_eq_false, not_false_eq_true, implies_true, forall_const, true_implies, false_implies, ri_k, rn_k, rr_k, wr_bi, bi_e0, bi_e1, bi_T, bi_F, Classical.not_not, itp, itn, ck_t]
      · simp (disch := first | omega | (simp (disch := first | decide | omega) only [um_k, um_e, um_i, uz_k]; omega) | exact cat_i | exact cat_u | exact cat_r | assumption | exact rfl) only [b_301_0, hs, ht, hn, wr_of, ↓reduceIte, ck_T, lt_T, lt_F, le_T, le_F, eq_T, eq_F, and_true, true_and, and_false, false_and, or_true, true_or, or_false, false_or, and_self, or_self, not_true_eq_false, not_false_eq_true, implies_true, forall_const, true_implies, false_implies, ri_k, rn_k, rr_k, wr_bi, bi_e0, bi_e1, bi_T, bi_F, Classical.not_not, itp, itn, ck_t]
  · by_cases hA : 0 ≤ s ∧ s < 4 ∧ -1 ≤ t ∧ t ≤ 4
    · refine Both.same hI (-1) ?_ ?_
      · simp (disch := first | omega | (simp (disch := first | decide | omega) only [um_k, um_e, um_i, uz_k]; omega) | exact cat_i | exact cat_u | exact cat_r | assumption | exact rfl) only [b_183_0, hs, ht, hn, wr_of, ↓reduceIte, ck_T, lt_T, lt_F, le_T, le_F, eq_T, eq_F, and_true, true_and, and_false, false_and, or_true, true_or, or_false, false_or, and_self, or_self, not_true_eq_false, not_false_eq_true, implies_true, forall_const, true_implies, false_implies, ri_k, rn_k, rr_k, wr_bi, bi_e0, bi_e1, bi_T, bi_F, Classical.not_not, itp, itn, ck_t]
      · simp (disch := first | omega | (simp (disch := first | decide | omega) only [um_k, um_e, um_i, uz_k]; omega) | exact cat_i | exact cat_u | exact cat_r | assumption | exact rfl) only [b_301_0, hs, ht, hn, wr_of, ↓reduceIte, ck_T, lt_T, lt_F, le_T, le_F, eq_T, eq_F, and_true, true_and, and_false, false_and, or_true, true_or, or_false, false_or, and_self, or_self, not_true_eq_false, not_false_eq_true, implies_true, forall_const, true_implies, false_implies, ri_k, rn_k, rr_k, wr_bi, bi_e0, bi_e1, bi_T, bi_F, Classical.not_not, itp, itn, ck_t]
    · refine Both.same hI (-1) ?_ ?_
      · simp (disch := first | omega | (simp (disch := first | decide | omega) only [um_k, um_e, um_i, uz_k]; omega) | exact cat_i | exact cat_u | exact cat_r | assumption | exact rfl) only [b_183_0, hs, ht, hn, wr_of, ↓reduceIte, ck_T, lt_T, lt_F, le_T, le_F, eq_T, eq_F, and_true, true_and, and_false, false_and, or_true, true_or, or_false, false_or, and_self, or_self, not_true_eq_false, not_false_eq_true, implies_true, forall_const, true_implies, false_implies, ri_k, rn_k, rr_k, wr_bi, bi_e0, bi_e1, bi_T, bi_F, Classical.not_not, itp, itn, ck_t]
      · simp (disch := first | omega | (simp (disch := first | decide | omega) only [um_k, um_e, um_i, uz_k]; omega) | exact cat_i | exact cat_u | exact cat_r | assumption | exact rfl) only [b_301_0, hs, ht, hn, wr_of, ↓reduceIte, ck_T, lt_T, lt_F, le_T, le_F, eq_T, eq_F, and_true, true_and, and_false, false_and, or_true, true_or, or_false, false_or, and_self, or_self, not_true_eq_false, not_false_eq_true, implies_true, forall_const, true_implies, false_implies, ri_k, rn_k, rr_k, wr_bi, bi_e0, bi_e1, bi_T, bi_F, Classical.not_not, itp, itn, ck_t]
/-- an item, narrowed to its sort -/
def nrw (t v : Int) : Int := if t = 0 then j8 v else if t = 1 then j16 v else if t = 4 then (if ¬ v = 0 then 1 else 0) else v
theorem j8_b {v : Int} : -128 ≤ j8 v ∧ j8 v < 128 := by unfold j8; omega
theorem j16_b {v : Int} : -32768 ≤ j16 v ∧ j16 v < 32768 := by unfold j16; omega
theorem wr_nrw {t v : Int} (hv : wr v = v) : wr (nrw t v) = nrw t v := by
  have h1 := j8_b (v := v)
  have h2 := j16_b (v := v)
  unfold nrw
  by_cases c0 : t = 0
  · rw [itp c0]; exact wr_of (by omega) (by omega)
  · rw [itn c0]
    by_cases c1 : t = 1
    · rw [itp c1]; exact wr_of (by omega) (by omega)
    · rw [itn c1]
      by_cases c4 : t = 4
      · rw [itp c4]; exact wr_b
      · rw [itn c4]; exact hv
theorem H_narrowed {t v : Int} (ht : wr t = t) (hv : wr v = v) : Z e d 5 0 [.int (iI (t)), .int (iI (v))] [] m = ri (nrw t v) m := by
  unfold nrw
  by_cases c0 : t = 0
  · simp (disch := first | omega | (simp (disch := first | decide | omega) only [um_k, um_e, um_i, uz_k]; omega) | exact cat_i | exact cat_u | exact cat_r | assumption | exact rfl) only [b_5_0, ht, hv, wr_of, ↓reduceIte, ck_T, lt_T, lt_F, le_T, le_F, eq_T, eq_F, and_true, true_and, and_false, false_and, or_true, true_or, or_false, false_or, and_self, or_self, not_true_eq_false, not_false_eq_true, implies_true, forall_const, true_implies, false_implies, ri_k, rn_k, rr_k, wr_bi, bi_e0, bi_e1, bi_T, bi_F, Classical.not_not, itp, itn, ck_t]
  · by_cases c1 : t = 1
    · simp (disch := first | omega | (simp (disch := first | decide | omega) only [um_k, um_e, um_i, uz_k]; omega) | exact cat_i | exact cat_u | exact cat_r | assumption | exact rfl) only [b_5_0, ht, hv, wr_of, ↓reduceIte, ck_T, lt_T, lt_F, le_T, le_F, eq_T, eq_F, and_true, true_and, and_false, false_and, or_true, true_or, or_false, false_or, and_self, or_self, not_true_eq_false, not_false_eq_true, implies_true, forall_const, true_implies, false_implies, ri_k, rn_k, rr_k, wr_bi, bi_e0, bi_e1, bi_T, bi_F, Classical.not_not, itp, itn, ck_t]
    · by_cases c4 : t = 4
      · simp (disch := first | omega | (simp (disch := first | decide | omega) only [um_k, um_e, um_i, uz_k]; omega) | exact cat_i | exact cat_u | exact cat_r | assumption | exact rfl) only [b_5_0, ht, hv, wr_of, ↓reduceIte, ck_T, lt_T, lt_F, le_T, le_F, eq_T, eq_F, and_true, true_and, and_false, false_and, or_true, true_or, or_false, false_or, and_self, or_self, not_true_eq_false, not_false_eq_true, implies_true, forall_const, true_implies, false_implies, ri_k, rn_k, rr_k, wr_bi, bi_e0, bi_e1, bi_T, bi_F, Classical.not_not, itp, itn, ck_t]
      · simp (disch := first | omega | (simp (disch := first | decide | omega) only [um_k, um_e, um_i, uz_k]; omega) | exact cat_i | exact cat_u | exact cat_r | assumption | exact rfl) only [b_5_0, ht, hv, wr_of, ↓reduceIte, ck_T, lt_T, lt_F, le_T, le_F, eq_T, eq_F, and_true, true_and, and_false, false_and, or_true, true_or, or_false, false_or, and_self, or_self, not_true_eq_false, not_false_eq_true, implies_true, forall_const, true_implies, false_implies, ri_k, rn_k, rr_k, wr_bi, bi_e0, bi_e1, bi_T, bi_F, Classical.not_not, itp, itn, ck_t]
theorem call_put {s i v : Int} (hI : Inv m) (hs : wr s = s) (hi : wr i = i) (hv : wr v = v) : Both (Z e (d + 1) 184 0 [.ref 0, .int (iI (s)), .int (iI (i)), .int (iI (v)), .retAddr 0] []) (Z e (d + 2) 302 0 [.ref 246, .int (iI (s)), .int (iI (i)), .int (iI (v))] []) m := by
  obtain ⟨hr, ⟨iN, iG, iP, iH, iS, iD, iT, iO, iU, iR, iV⟩, iK, iL, iF, iB, iA, iW, iX⟩ := id hI
  have bN := iN
  unfold cNum at bN
  by_cases h1 : 0 ≤ s ∧ s < 4
  · have q := iX.1 s h1.1 h1.2
    by_cases h2 : m 261 s = -1
    · refine Both.same hI (-11) ?_ ?_
      · simp (disch := first | omega | (simp (disch := first | decide | omega) only [um_k, um_e, um_i, uz_k]; omega) | exact cat_i | exact cat_u | exact cat_r | assumption | exact rfl) only [b_184_0, b_184_28, b_4_0, hs, hi, hv, hr _ _, wr_of, ↓reduceIte, ck_T, lt_T, lt_F, le_T, le_F, eq_T, eq_F, and_true, true_and, and_false, false_and, or_true, true_or, or_false, false_or, and_self, or_self, not_true_eq_false, not_false_eq_true, implies_true, forall_const, true_implies, false_implies, ri_k, rn_k, rr_k, wr_bi, bi_e0, bi_e1, bi_T, bi_F, Classical.not_not, itp, itn, ck_t]
      · simp (disch := first | omega | (simp (disch := first | decide | omega) only [um_k, um_e, um_i, uz_k]; omega) | exact cat_i | exact cat_u | exact cat_r | assumption | exact rfl) only [b_302_0, hs, hi, hv, hr _ _, wr_of, ↓reduceIte, ck_T, lt_T, lt_F, le_T, le_F, eq_T, eq_F, and_true, true_and, and_false, false_and, or_true, true_or, or_false, false_or, and_self, or_self, not_true_eq_false, not_false_eq_true, implies_true, forall_const, true_implies, false_implies, ri_k, rn_k, rr_k, wr_bi, bi_e0, bi_e1, bi_T, bi_F, Classical.not_not, itp, itn, ck_t]
    · by_cases h3 : 0 ≤ i ∧ i < m 262 s
      · refine ⟨1, um m (238 + s.toNat) i (nrw (m 261 s) v), um (um m (238 + s.toNat) i (nrw (m 261 s) v)) 263 (40 * s + i) (nrw (m 261 s) v), ?_, ?_, ?_⟩
        · simp (disch := first | omega | (simp (disch := first | decide | omega) only [um_k, um_e, um_i, uz_k]; omega) | exact cat_i | exact cat_u | exact cat_r | assumption | exact rfl) only [b_184_0, b_184_28, b_4_0, hs, hi, hv, hr _ _, q.1.1, H_narrowed (hr 261 s) hv, b_184_61 (zArr_237 (j := s) h1), wr_of, ↓reduceIte, ck_T, lt_T, lt_F, le_T, le_F, eq_T, eq_F, and_true, true_and, and_false, false_and, or_true, true_or, or_false, false_or, and_self, or_self, not_true_eq_false, not_false_eq_true, implies_true, forall_const, true_implies, false_implies, ri_k, rn_k, rr_k, wr_bi, bi_e0, bi_e1, bi_T, bi_F, Classical.not_not, itp, itn, ck_t]
        · simp (disch := first | omega | (simp (disch := first | decide | omega) only [um_k, um_e, um_i, uz_k]; omega) | exact cat_i | exact cat_u | exact cat_r | assumption | exact rfl) only [b_302_0, hs, hi, hv, hr _ _, um_k, wr_of, ↓reduceIte, ck_T, lt_T, lt_F, le_T, le_F, eq_T, eq_F, and_true, true_and, and_false, false_and, or_true, true_or, or_false, false_or, and_self, or_self, not_true_eq_false, not_false_eq_true, implies_true, forall_const, true_implies, false_implies, ri_k, rn_k, rr_k, wr_bi, bi_e0, bi_e1, bi_T, bi_F, Classical.not_not, itp, itn, ck_t]
          unfold nrw
          rfl
        · refine Inv_host hI ((hr.um (wr_nrw hv)).um (wr_nrw hv)) (fun k hk => by simp (disch := first | omega | (simp (disch := first | decide | omega) only [um_k, um_e, um_i, uz_k]; omega) | exact cat_i | exact cat_u | exact cat_r | assumption | exact rfl) only [um_r, um_k, um_i, um_e, uz_r, uz_k, uz_i, uz_in]) (fun i _ => by simp (disch := first | omega | (simp (disch := first | decide | omega) only [um_k, um_e, um_i, uz_k]; omega) | exact cat_i | exact cat_u | exact cat_r | assumption | exact rfl) only [um_r, um_k, um_i, um_e, uz_r, uz_k, uz_i, uz_in]) ?_
          have qq := iX
          unfold Host at qq ⊢
          refine ⟨fun x g1 g2 => ?_, ?_, ?_⟩
          · have qx := qq.1 x g1 g2
            simp (disch := first | omega | (simp (disch := first | decide | omega) only [um_k, um_e, um_i, uz_k]; omega) | exact cat_i | exact cat_u | exact cat_r | assumption | exact rfl) only [um_k]
            refine ⟨qx.1, qx.2.1, fun j g3 g4 => ?_, qx.2.2.2⟩
            by_cases hx : x = s
            · rw [hx]
              by_cases hj : j = i
              · simp (disch := first | omega | (simp (disch := first | decide | omega) only [um_k, um_e, um_i, uz_k]; omega) | exact cat_i | exact cat_u | exact cat_r | assumption | exact rfl) only [um_r, um_k, um_i, um_e, uz_r, uz_k, uz_i, uz_in]
              · simp (disch := first | omega | (simp (disch := first | decide | omega) only [um_k, um_e, um_i, uz_k]; omega) | exact cat_i | exact cat_u | exact cat_r | assumption | exact rfl) only [um_r, um_k, um_i, um_e, uz_r, uz_k, uz_i, uz_in]
                rw [← hx]
                exact qx.2.2.1 j g3 g4
            · simp (disch := first | omega | (simp (disch := first | decide | omega) only [um_k, um_e, um_i, uz_k]; omega) | exact cat_i | exact cat_u | exact cat_r | assumption | exact rfl) only [um_r, um_k, um_i, um_e, uz_r, uz_k, uz_i, uz_in]
              exact qx.2.2.1 j g3 g4
          · simp (disch := first | omega | (simp (disch := first | decide | omega) only [um_k, um_e, um_i, uz_k]; omega) | exact cat_i | exact cat_u | exact cat_r | assumption | exact rfl) only [um_r, um_k, um_i, um_e, uz_r, uz_k, uz_i, uz_in]
            exact qq.2.1
          · simp (disch := first | omega | (simp (disch := first | decide | omega) only [um_k, um_e, um_i, uz_k]; omega) | exact cat_i | exact cat_u | exact cat_r | assumption | exact rfl) only [um_r, um_k, um_i, um_e, uz_r, uz_k, uz_i, uz_in]
            exact qq.2.2
      · refine Both.same hI (-12) ?_ ?_
        · simp (disch := first | omega | (simp (disch := first | decide | omega) only [um_k, um_e, um_i, uz_k]; omega) | exact cat_i | exact cat_u | exact cat_r | assumption | exact rfl) only [b_184_0, b_184_28, b_4_0, hs, hi, hv, hr _ _, q.1.1, wr_of, ↓reduceIte, ck_T, lt_T, lt_F, le_T, le_F, eq_T, eq_F, and_true, true_and, and_false, false_and, or_true, true_or, or_false, false_or, and_self, or_self, not_true_eq_false, not_false_eq_true, implies_true, forall_const, true_implies, false_implies, ri_k, rn_k, rr_k, wr_bi, bi_e0, bi_e1, bi_T, bi_F, Classical.not_not, itp, itn, ck_t]
        · simp (disch := first | omega | (simp (disch := first | decide | omega) only [um_k, um_e, um_i, uz_k]; omega) | exact cat_i | exact cat_u | exact cat_r | assumption | exact rfl) only [b_302_0, hs, hi, hv, hr _ _, wr_of, ↓reduceIte, ck_T, lt_T, lt_F, le_T, le_F, eq_T, eq_F, and_true, true_and, and_false, false_and, or_true, true_or, or_false, false_or, and_self, or_self, not_true_eq_false, not_false_eq_true, implies_true, forall_const, true_implies, false_implies, ri_k, rn_k, rr_k, wr_bi, bi_e0, bi_e1, bi_T, bi_F, Classical.not_not, itp, itn, ck_t]
  · refine Both.same hI (-1) ?_ ?_
    · simp (disch := first | omega | (simp (disch := first | decide | omega) only [um_k, um_e, um_i, uz_k]; omega) | exact cat_i | exact cat_u | exact cat_r | assumption | exact rfl) only [b_184_0, hs, hi, hv, wr_of, ↓reduceIte, ck_T, lt_T, lt_F, le_T, le_F, eq_T, eq_F, and_true, true_and, and_false, false_and, or_true, true_or, or_false, false_or, and_self, or_self, not_true_eq_false, not_false_eq_true, implies_true, forall_const, true_implies, false_implies, ri_k, rn_k, rr_k, wr_bi, bi_e0, bi_e1, bi_T, bi_F, Classical.not_not, itp, itn, ck_t]
    · simp (disch := first | omega | (simp (disch := first | decide | omega) only [um_k, um_e, um_i, uz_k]; omega) | exact cat_i | exact cat_u | exact cat_r | assumption | exact rfl) only [b_302_0, hs, hi, hv, wr_of, ↓reduceIte, ck_T, lt_T, lt_F, le_T, le_F, eq_T, eq_F, and_true, true_and, and_false, false_and, or_true, true_or, or_false, false_or, and_self, or_self, not_true_eq_false, not_false_eq_true, implies_true, forall_const, true_implies, false_implies, ri_k, rn_k, rr_k, wr_bi, bi_e0, bi_e1, bi_T, bi_F, Classical.not_not, itp, itn, ck_t]
theorem call_item {s t i : Int} (hI : Inv m) (hs : wr s = s) (ht : wr t = t) (hi : wr i = i) : Both (Z e (d + 1) 185 0 [.ref 0, .int (iI (s)), .int (iI (t)), .int (iI (i)), .retAddr 0] []) (Z e (d + 2) 304 0 [.ref 246, .int (iI (s)), .int (iI (t)), .int (iI (i)), .retAddr 0] []) m := by
  obtain ⟨hr, ⟨iN, iG, iP, iH, iS, iD, iT, iO, iU, iR, iV⟩, iK, iL, iF, iB, iA, iW, iX⟩ := id hI
  have bN := iN
  unfold cNum at bN
  by_cases h1 : 0 ≤ s ∧ s < 4 ∧ 0 ≤ t ∧ t ≤ 4
  · have q := iX.1 s h1.1 h1.2.1
    by_cases h2 : m 261 s = -1
    · refine Both.same hI (-11) ?_ ?_
      · simp (disch := first | omega | (simp (disch := first | decide | omega) only [um_k, um_e, um_i, uz_k]; omega) | exact cat_i | exact cat_u | exact cat_r | assumption | exact rfl) only [b_185_0, b_185_29, b_4_0, hs, hi, ht, hr _ _, wr_of, ↓reduceIte, ck_T, lt_T, lt_F, le_T, le_F, eq_T, eq_F, and_true, true_and, and_false, false_and, or_true, true_or, or_false, false_or, and_self, or_self, not_true_eq_false, not_false_eq_true, implies_true, forall_const, true_implies, false_implies, ri_k, rn_k, rr_k, wr_bi, bi_e0, bi_e1, bi_T, bi_F, Classical.not_not, itp, itn, ck_t]
      · simp (disch := first | omega | (simp (disch := first | decide | omega) only [um_k, um_e, um_i, uz_k]; omega) | exact cat_i | exact cat_u | exact cat_r | assumption | exact rfl) only [b_304_0, hs, hi, ht, hr _ _, wr_of, ↓reduceIte, ck_T, lt_T, lt_F, le_T, le_F, eq_T, eq_F, and_true, true_and, and_false, false_and, or_true, true_or, or_false, false_or, and_self, or_self, not_true_eq_false, not_false_eq_true, implies_true, forall_const, true_implies, false_implies, ri_k, rn_k, rr_k, wr_bi, bi_e0, bi_e1, bi_T, bi_F, Classical.not_not, itp, itn, ck_t]
    · by_cases h4 : m 261 s = t
      · by_cases h3 : 0 ≤ i ∧ i < m 262 s
        · refine Both.same hI (m 263 (40 * s + i)) ?_ ?_
          · simp (disch := first | omega | (simp (disch := first | decide | omega) only [um_k, um_e, um_i, uz_k]; omega) | exact cat_i | exact cat_u | exact cat_r | assumption | exact rfl) only [b_185_0, b_185_29, b_4_0, hs, hi, ht, hr _ _, q.2.2.1 i, wr_of, ↓reduceIte, ck_T, lt_T, lt_F, le_T, le_F, eq_T, eq_F, and_true, true_and, and_false, false_and, or_true, true_or, or_false, false_or, and_self, or_self, not_true_eq_false, not_false_eq_true, implies_true, forall_const, true_implies, false_implies, ri_k, rn_k, rr_k, wr_bi, bi_e0, bi_e1, bi_T, bi_F, Classical.not_not, itp, itn, ck_t]
          · simp (disch := first | omega | (simp (disch := first | decide | omega) only [um_k, um_e, um_i, uz_k]; omega) | exact cat_i | exact cat_u | exact cat_r | assumption | exact rfl) only [b_304_0, hs, hi, ht, hr _ _, wr_of, ↓reduceIte, ck_T, lt_T, lt_F, le_T, le_F, eq_T, eq_F, and_true, true_and, and_false, false_and, or_true, true_or, or_false, false_or, and_self, or_self, not_true_eq_false, not_false_eq_true, implies_true, forall_const, true_implies, false_implies, ri_k, rn_k, rr_k, wr_bi, bi_e0, bi_e1, bi_T, bi_F, Classical.not_not, itp, itn, ck_t]
        · refine Both.same hI (-12) ?_ ?_
          · simp (disch := first | omega | (simp (disch := first | decide | omega) only [um_k, um_e, um_i, uz_k]; omega) | exact cat_i | exact cat_u | exact cat_r | assumption | exact rfl) only [b_185_0, b_185_29, b_4_0, hs, hi, ht, hr _ _, wr_of, ↓reduceIte, ck_T, lt_T, lt_F, le_T, le_F, eq_T, eq_F, and_true, true_and, and_false, false_and, or_true, true_or, or_false, false_or, and_self, or_self, not_true_eq_false, not_false_eq_true, implies_true, forall_const, true_implies, false_implies, ri_k, rn_k, rr_k, wr_bi, bi_e0, bi_e1, bi_T, bi_F, Classical.not_not, itp, itn, ck_t]
          · by_cases h5 : i < 0
            · simp (disch := first | omega | (simp (disch := first | decide | omega) only [um_k, um_e, um_i, uz_k]; omega) | exact cat_i | exact cat_u | exact cat_r | assumption | exact rfl) only [b_304_0, hs, hi, ht, hr _ _, wr_of, ↓reduceIte, ck_T, lt_T, lt_F, le_T, le_F, eq_T, eq_F, and_true, true_and, and_false, false_and, or_true, true_or, or_false, false_or, and_self, or_self, not_true_eq_false, not_false_eq_true, implies_true, forall_const, true_implies, false_implies, ri_k, rn_k, rr_k, wr_bi, bi_e0, bi_e1, bi_T, bi_F, Classical.not_not, itp, itn, ck_t]
            · simp (disch := first | omega | (simp (disch := first | decide | omega) only [um_k, um_e, um_i, uz_k]; omega) | exact cat_i | exact cat_u | exact cat_r | assumption | exact rfl) only [b_304_0, hs, hi, ht, hr _ _, wr_of, ↓reduceIte, ck_T, lt_T, lt_F, le_T, le_F, eq_T, eq_F, and_true, true_and, and_false, false_and, or_true, true_or, or_false, false_or, and_self, or_self, not_true_eq_false, not_false_eq_true, implies_true, forall_const, true_implies, false_implies, ri_k, rn_k, rr_k, wr_bi, bi_e0, bi_e1, bi_T, bi_F, Classical.not_not, itp, itn, ck_t]
      · refine Both.same hI (-13) ?_ ?_
        · simp (disch := first | omega | (simp (disch := first | decide | omega) only [um_k, um_e, um_i, uz_k]; omega) | exact cat_i | exact cat_u | exact cat_r | assumption | exact rfl) only [b_185_0, b_185_29, b_4_0, hs, hi, ht, hr _ _, wr_of, ↓reduceIte, ck_T, lt_T, lt_F, le_T, le_F, eq_T, eq_F, and_true, true_and, and_false, false_and, or_true, true_or, or_false, false_or, and_self, or_self, not_true_eq_false, not_false_eq_true, implies_true, forall_const, true_implies, false_implies, ri_k, rn_k, rr_k, wr_bi, bi_e0, bi_e1, bi_T, bi_F, Classical.not_not, itp, itn, ck_t]
        · simp (disch := first | omega | (simp (disch := first | decide | omega) only [um_k, um_e, um_i, uz_k]; omega) | exact cat_i | exact cat_u | exact cat_r | assumption | exact rfl) only [b_304_0, hs, hi, ht, hr _ _, wr_of, ↓reduceIte, ck_T, lt_T, lt_F, le_T, le_F, eq_T, eq_F, and_true, true_and, and_false, false_and, or_true, true_or, or_false, false_or, and_self, or_self, not_true_eq_false, not_false_eq_true, implies_true, forall_const, true_implies, false_implies, ri_k, rn_k, rr_k, wr_bi, bi_e0, bi_e1, bi_T, bi_F, Classical.not_not, itp, itn, ck_t]
  · refine Both.same hI (-1) ?_ ?_
    · simp (disch := first | omega | (simp (disch := first | decide | omega) only [um_k, um_e, um_i, uz_k]; omega) | exact cat_i | exact cat_u | exact cat_r | assumption | exact rfl) only [b_185_0, hs, hi, ht, wr_of, ↓reduceIte, ck_T, lt_T, lt_F, le_T, le_F, eq_T, eq_F, and_true, true_and, and_false, false_and, or_true, true_or, or_false, false_or, and_self, or_self, not_true_eq_false, not_false_eq_true, implies_true, forall_const, true_implies, false_implies, ri_k, rn_k, rr_k, wr_bi, bi_e0, bi_e1, bi_T, bi_F, Classical.not_not, itp, itn, ck_t]
    · simp (disch := first | omega | (simp (disch := first | decide | omega) only [um_k, um_e, um_i, uz_k]; omega) | exact cat_i | exact cat_u | exact cat_r | assumption | exact rfl) only [b_304_0, hs, hi, ht, wr_of, ↓reduceIte, ck_T, lt_T, lt_F, le_T, le_F, eq_T, eq_F, and_true, true_and, and_false, false_and, or_true, true_or, or_false, false_or, and_self, or_self, not_true_eq_false, not_false_eq_true, implies_true, forall_const, true_implies, false_implies, ri_k, rn_k, rr_k, wr_bi, bi_e0, bi_e1, bi_T, bi_F, Classical.not_not, itp, itn, ck_t]
end HO
