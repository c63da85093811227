/-! Posts. -/
theorem lpG {α β γ : Type} {F : Int → α → γ → β} {G : α → β} {f : Int → α → α} {I : Int → α → Prop} {n : Int} (hn : 0 ≤ n) (x : α) (u : γ) (h0 : I 0 x) (hs : ∀ i y u, 0 ≤ i → i < n → I i y → (∃ u', F i y u = F (i + 1) (f i y) u') ∧ I (i + 1) (f i y)) (hG : ∀ y u, I n y → F n y u = G y) : F 0 x u = G (itr f 0 n.toNat x) ∧ I n (itr f 0 n.toNat x) := by
  have : ∀ (k : Nat) (j : Int) (x : α) (u : γ), j + k = n → 0 ≤ j → I j x → F j x u = G (itr f j k x) ∧ I n (itr f j k x) := by
    intro k
    induction k with
    | zero =>
      intro j x u hk hj hI
      have : j = n := by omega
      subst this
      exact ⟨hG x u hI, hI⟩
    | succ k ih =>
      intro j x u hk hj hI
      obtain ⟨⟨u', h1⟩, h2⟩ := hs j x u hj (by omega) hI
      rw [h1, itr]
      exact ih (j + 1) _ u' (by omega) (by omega) h2
  exact this n.toNat 0 x u (by omega) (by omega) h0
theorem jfar_b {x y : Int} (h0 : 0 ≤ x) (h1 : x < 100) (h2 : 0 ≤ y) (h3 : y < 100) : 0 ≤ jfar x y ∧ jfar x y ≤ 18 := by
  unfold jfar
  rw [jdiv_n h0 (by omega) (by decide) (by decide), jdiv_n h2 (by omega) (by decide) (by decide), jrem_n h0 (by omega) (by decide) (by decide), jrem_n h2 (by omega) (by decide) (by decide), wr_of (by omega) (by omega), wr_of (by omega) (by omega)]
  split <;> split <;> omega
theorem wr_jfar {x y : Int} (h0 : 0 ≤ x) (h1 : x < 100) (h2 : 0 ≤ y) (h3 : y < 100) : wr (jfar x y) = jfar x y := by
  have := jfar_b h0 h1 h2 h3
  exact wr_of (by omega) (by omega)
/-- a post sees a cell at a clock -/
def seeP (N : Int → Int) (c h p : Int) : Prop := mann (N (1050 + 4 * p + 2)) (N (1050 + 4 * p + 3)) h ∧ jfar (N (1050 + 4 * p)) c ≤ N (1050 + 4 * p + 1)
noncomputable def seeS (N : Int → Int) (c h : Int) : Int := itr (fun p b => cif (seeP N c h p) (jor b (jshl 1 p)) b) 0 (N 6).toNat 0
section PS
variable {e : List Int32 × Value} {d : Nat} {m : zMm}
theorem M_seenBy {c h : Int} (hr : Rng m) (b6 : 0 ≤ m 247 6 ∧ m 247 6 ≤ 8) (iO : ∀ p, 0 ≤ p → p < m 247 6 → 0 ≤ m 247 (1050 + 4 * p) ∧ m 247 (1050 + 4 * p) < 100) (h0 : 0 ≤ c) (h1 : c < 100) (h2 : 0 ≤ h) (h3 : h < 24) : Z e (d + 2) 277 0 [.ref 246, .int (iI (c)), .int (iI (h)), .retAddr 0, .retAddr 0, .retAddr 0, .retAddr 0, .retAddr 0] [] m = ri (seeS (m 247) c h) m := by
  rw [b_277_0]
  have key := lpG (F := fun i y (u : Value × Value × Value) => Z e (d + 2) 277 5 [.ref 246, .int (iI c), .int (iI h), .int (iI y), .int (iI i), u.1, u.2.1, u.2.2] [] m) (G := fun y => ri y m) (f := fun p b => cif (seeP (m 247) c h p) (jor b (jshl 1 p)) b) (I := fun _ y => wr y = y) (n := m 247 6) b6.1 0 (.retAddr 0, .retAddr 0, .retAddr 0) rfl
    (by
      intro i y u g1 g2 gI
      have q := iO i g1 g2
      have w1 : wr c = c := wr_of (by omega) (by omega)
      have w2 : wr h = h := wr_of (by omega) (by omega)
      refine ⟨⟨(.int (iI (m 247 (1050 + 4 * i + 2))), .int (iI (m 247 (1050 + 4 * i + 3))), .int (iI (if m 247 (1050 + 4 * i + 2) ≤ m 247 (1050 + 4 * i + 3) then (if (m 247 (1050 + 4 * i + 2) ≤ h) ∧ (h ≤ m 247 (1050 + 4 * i + 3)) then 1 else 0) else (if (m 247 (1050 + 4 * i + 2) ≤ h) ∨ (h ≤ m 247 (1050 + 4 * i + 3)) then 1 else 0)))), ?_⟩, ?_⟩
      · refine (b_277_5).trans ?_
        have wv : wr (if m 247 (1050 + 4 * i + 2) ≤ m 247 (1050 + 4 * i + 3) then (if (m 247 (1050 + 4 * i + 2) ≤ h) ∧ (h ≤ m 247 (1050 + 4 * i + 3)) then 1 else 0) else (if (m 247 (1050 + 4 * i + 2) ≤ h) ∨ (h ≤ m 247 (1050 + 4 * i + 3)) then 1 else 0)) = (if m 247 (1050 + 4 * i + 2) ≤ m 247 (1050 + 4 * i + 3) then (if (m 247 (1050 + 4 * i + 2) ≤ h) ∧ (h ≤ m 247 (1050 + 4 * i + 3)) then 1 else 0) else (if (m 247 (1050 + 4 * i + 2) ≤ h) ∨ (h ≤ m 247 (1050 + 4 * i + 3)) then 1 else 0)) := by
          split <;> exact wr_b
        have mv : (¬ (if m 247 (1050 + 4 * i + 2) ≤ m 247 (1050 + 4 * i + 3) then (if (m 247 (1050 + 4 * i + 2) ≤ h) ∧ (h ≤ m 247 (1050 + 4 * i + 3)) then (1 : Int) else 0) else (if (m 247 (1050 + 4 * i + 2) ≤ h) ∨ (h ≤ m 247 (1050 + 4 * i + 3)) then 1 else 0)) = 0) ↔ mann (m 247 (1050 + 4 * i + 2)) (m 247 (1050 + 4 * i + 3)) h := by
          unfold mann
          by_cases q1 : m 247 (1050 + 4 * i + 2) ≤ m 247 (1050 + 4 * i + 3)
          · rw [itp q1, if_pos q1]
            by_cases q2 : (m 247 (1050 + 4 * i + 2) ≤ h) ∧ (h ≤ m 247 (1050 + 4 * i + 3))
            · rw [itp q2]; exact ⟨fun _ => q2, fun _ => by decide⟩
            · rw [itn q2]; exact ⟨fun q => absurd rfl q, fun q => absurd q q2⟩
          · rw [itn q1, if_neg q1]
            by_cases q2 : (m 247 (1050 + 4 * i + 2) ≤ h) ∨ (h ≤ m 247 (1050 + 4 * i + 3))
            · rw [itp q2]; exact ⟨fun _ => q2, fun _ => by decide⟩
            · rw [itn q2]; exact ⟨fun q => absurd rfl q, fun q => absurd q q2⟩
        simp (disch := first | omega | (simp (disch := first | decide | omega) only [um_k, um_e, um_i, uz_k]; omega) | exact cat_i | exact cat_u | exact cat_r | assumption | exact rfl) only [hr _ _, w1, w2, wr_jfar q.1 q.2 h0 h1, wr_of, ↓reduceIte, ck_T, lt_T, lt_F, le_T, le_F, eq_T, eq_F, and_true, true_and, and_false, false_and, or_true, true_or, or_false, false_or, and_self, or_self, not_true_eq_false, not_false_eq_true, implies_true, forall_const, true_implies, false_implies, ri_k, rn_k, rr_k, wr_bi, bi_T, bi_F, Classical.not_not, itp, itn, ck_t]
        refine congrArg (fun z => Z e (d + 2) 277 5 [.ref 246, .int (iI c), .int (iI h), .int (iI z), .int (iI (i + 1)), _, _, _] [] m) ?_
        by_cases hs : seeP (m 247) c h i
        · rw [cif_t hs, itp ⟨mv.mpr hs.1, hs.2⟩]
        · rw [cif_f hs, itn (fun q => hs ⟨mv.mp q.1, q.2⟩), jor_0 gI]
      · by_cases hs : seeP (m 247) c h i
        · rw [cif_t hs]; exact wr_jor
        · rw [cif_f hs]; exact gI)
    (by
      intro y u gI
      refine (b_277_5).trans ?_
      simp (disch := first | omega | (simp (disch := first | decide | omega) only [um_k, um_e, um_i, uz_k]; omega) | exact cat_i | exact cat_u | exact cat_r | assumption | exact rfl) only [hr _ _, wr_of, ↓reduceIte, ck_T, lt_T, lt_F, le_T, le_F, eq_T, eq_F, and_true, true_and, and_false, false_and, or_true, true_or, or_false, false_or, and_self, or_self, not_true_eq_false, not_false_eq_true, implies_true, forall_const, true_implies, false_implies, ri_k, rn_k, rr_k, wr_bi, bi_T, bi_F, Classical.not_not, itp, itn, ck_t])
  exact key.1
theorem P_reaches {p c : Int} (hr : Rng m) (iN : cNum m (m 247)) (iO : cPos m (m 247)) (h0 : 0 ≤ p) (h1 : p < m 247 6) (h2 : 0 ≤ c) (h3 : c < 100) : Z e (d + 2) 54 0 [.ref 206, .int (iI (p)), .int (iI (c))] [] m = ri (bi (jfar (m 247 (1050 + 4 * p)) c ≤ m 247 (1050 + 4 * p + 1))) m := by
  have bN := iN
  unfold cNum at bN
  have q := iO p h0 h1
  simp (disch := first | omega | (simp (disch := first | decide | omega) only [um_k, um_e, um_i, uz_k]; omega) | exact cat_i | exact cat_u | exact cat_r | assumption | exact rfl) only [b_54_0, b_54_12, b_54_28, get_14, q.1.1, q.2.1.1, hr _ _, wr_jfar q.1.2.1 q.1.2.2 h2 h3, bi_if, wr_of, ↓reduceIte, ck_T, lt_T, lt_F, le_T, le_F, eq_T, eq_F, and_true, true_and, and_false, false_and, or_true, true_or, or_false, false_or, and_self, or_self, not_true_eq_false, not_false_eq_true, implies_true, forall_const, true_implies, false_implies, ri_k, rn_k, rr_k, wr_bi, bi_T, bi_F, Classical.not_not, itp, itn, ck_t]
theorem P_seers {c h : Int} (hr : Rng m) (iN : cNum m (m 247)) (iO : cPos m (m 247)) (h0 : 0 ≤ c) (h1 : c < 100) (h2 : 0 ≤ h) (h3 : h < 24) : Z e (d + 3) 55 0 [.ref 206, .int (iI (c)), .int (iI (h)), .retAddr 0, .retAddr 0, .retAddr 0] [] m = ri (seeS (m 247) c h) m := by
  have bN := iN
  unfold cNum at bN
  rw [b_55_0]
  have key := lpG (F := fun i y (u : Value) => Z e (d + 3) 55 5 [.ref 206, .int (iI c), .int (iI h), .int (iI y), .int (iI i), u] [] m) (G := fun y => ri y m) (f := fun p b => cif (seeP (m 247) c h p) (jor b (jshl 1 p)) b) (I := fun _ _ => True) (n := m 247 6) (by omega) 0 (.retAddr 0) trivial
    (by
      intro i y u g1 g2 gI
      have q := iO i g1 g2
      have qb := q.2.2.2.2.2 h h2 h3
      refine ⟨⟨.int (iI (if jand (jshr (m 15 (i * 3 + 2)) h) 1 = 1 then 1 else 0)), ?_⟩, trivial⟩
      refine (b_55_5).trans ?_
      by_cases c1 : mann (m 247 (1050 + 4 * i + 2)) (m 247 (1050 + 4 * i + 3)) h
      · rw [bi_t c1] at qb
        by_cases c2 : jfar (m 247 (1050 + 4 * i)) c ≤ m 247 (1050 + 4 * i + 1)
        · simp (disch := first | omega | (simp (disch := first | decide | omega) only [um_k, um_e, um_i, uz_k]; omega) | exact cat_i | exact cat_u | exact cat_r | assumption | exact rfl) only [b_55_33, b_55_60, get_14, hr _ _, qb, P_reaches hr iN iO g1 g2 h0 h1, bi_t c2, cif_t (show seeP (m 247) c h i from ⟨c1, c2⟩), wr_of, ↓reduceIte, ck_T, lt_T, lt_F, le_T, le_F, eq_T, eq_F, and_true, true_and, and_false, false_and, or_true, true_or, or_false, false_or, and_self, or_self, not_true_eq_false, not_false_eq_true, implies_true, forall_const, true_implies, false_implies, ri_k, rn_k, rr_k, wr_bi, bi_e0, bi_e1, bi_T, bi_F, Classical.not_not, itp, itn, ck_t]
        · simp (disch := first | omega | (simp (disch := first | decide | omega) only [um_k, um_e, um_i, uz_k]; omega) | exact cat_i | exact cat_u | exact cat_r | assumption | exact rfl) only [b_55_33, b_55_60, get_14, hr _ _, qb, P_reaches hr iN iO g1 g2 h0 h1, bi_f c2, cif_f (show ¬ seeP (m 247) c h i from fun q => c2 q.2), wr_of, ↓reduceIte, ck_T, lt_T, lt_F, le_T, le_F, eq_T, eq_F, and_true, true_and, and_false, false_and, or_true, true_or, or_false, false_or, and_self, or_self, not_true_eq_false, not_false_eq_true, implies_true, forall_const, true_implies, false_implies, ri_k, rn_k, rr_k, wr_bi, bi_e0, bi_e1, bi_T, bi_F, Classical.not_not, itp, itn, ck_t]
      · rw [bi_f c1] at qb
        simp (disch := first | omega | (simp (disch := first | decide | omega) only [um_k, um_e, um_i, uz_k]; omega) | exact cat_i | exact cat_u | exact cat_r | assumption | exact rfl) only [b_55_33, b_55_60, get_14, hr _ _, qb, cif_f (show ¬ seeP (m 247) c h i from fun q => c1 q.1), wr_of, ↓reduceIte, ck_T, lt_T, lt_F, le_T, le_F, eq_T, eq_F, and_true, true_and, and_false, false_and, or_true, true_or, or_false, false_or, and_self, or_self, not_true_eq_false, not_false_eq_true, implies_true, forall_const, true_implies, false_implies, ri_k, rn_k, rr_k, wr_bi, bi_e0, bi_e1, bi_T, bi_F, Classical.not_not, itp, itn, ck_t])
    (by
      intro y u gI
      refine (b_55_5).trans ?_
      simp (disch := first | omega | (simp (disch := first | decide | omega) only [um_k, um_e, um_i, uz_k]; omega) | exact cat_i | exact cat_u | exact cat_r | assumption | exact rfl) only [hr _ _, wr_of, ↓reduceIte, ck_T, lt_T, lt_F, le_T, le_F, eq_T, eq_F, and_true, true_and, and_false, false_and, or_true, true_or, or_false, false_or, and_self, or_self, not_true_eq_false, not_false_eq_true, implies_true, forall_const, true_implies, false_implies, ri_k, rn_k, rr_k, wr_bi, bi_e0, bi_e1, bi_T, bi_F, Classical.not_not, itp, itn, ck_t])
  exact key.1
theorem pos_b (iO : cPos m (m 247)) : ∀ p, 0 ≤ p → p < m 247 6 → 0 ≤ m 247 (1050 + 4 * p) ∧ m 247 (1050 + 4 * p) < 100 := fun p h0 h1 => (iO p h0 h1).1.2
theorem call_sees {c h : Int} (hI : Inv m) (hc : wr c = c) (hh : wr h = h) : Both (Z e (d + 4) 168 0 [.ref 0, .int (iI (c)), .int (iI (h))] []) (Z e (d + 3) 278 0 [.ref 246, .int (iI (c)), .int (iI (h))] []) m := by
  obtain ⟨hr, ⟨iN, iG, iP, iH, iS, iD, iT, iO, iU, iR, iV⟩, iK, iL, iF, iB, iA, iW, iX⟩ := id hI
  have bN := iN
  unfold cNum at bN
  by_cases h1 : 0 ≤ c ∧ c < 100 ∧ 0 ≤ h ∧ h ≤ 9999
  · refine Both.same hI (seeS (m 247) c (h % 24)) ?_ ?_
    · simp (disch := first | omega | (simp (disch := first | decide | omega) only [um_k, um_e, um_i, uz_k]; omega) | exact cat_i | exact cat_u | exact cat_r | assumption | exact rfl) only [b_168_0, b_168_28, hc, hh, jrem_n, P_seers hr iN iO h1.1 h1.2.1 (h := h % 24), wr_of, ↓reduceIte, ck_T, lt_T, lt_F, le_T, le_F, eq_T, eq_F, and_true, true_and, and_false, false_and, or_true, true_or, or_false, false_or, and_self, or_self, not_true_eq_false, not_false_eq_true, implies_true, forall_const, true_implies, false_implies, ri_k, rn_k, rr_k, wr_bi, bi_e0, bi_e1, bi_T, bi_F, Classical.not_not, itp, itn, ck_t]
    · simp (disch := first | omega | (simp (disch := first | decide | omega) only [um_k, um_e, um_i, uz_k]; omega) | exact cat_i | exact cat_u | exact cat_r | assumption | exact rfl) only [b_278_0, b_278_27, hc, hh, jrem_n, M_seenBy hr bN.2.2.2.2.2.2.1.2 (pos_b iO) h1.1 h1.2.1 (h := h % 24), wr_of, ↓reduceIte, ck_T, lt_T, lt_F, le_T, le_F, eq_T, eq_F, and_true, true_and, and_false, false_and, or_true, true_or, or_false, false_or, and_self, or_self, not_true_eq_false, not_false_eq_true, implies_true, forall_const, true_implies, false_implies, ri_k, rn_k, rr_k, wr_bi, bi_e0, bi_e1, bi_T, bi_F, Classical.not_not, itp, itn, ck_t]
  · refine Both.same hI (-1) ?_ ?_
    · simp (disch := first | omega | (simp (disch := first | decide | omega) only [um_k, um_e, um_i, uz_k]; omega) | exact cat_i | exact cat_u | exact cat_r | assumption | exact rfl) only [b_168_0, hc, hh, wr_of, ↓reduceIte, ck_T, lt_T, lt_F, le_T, le_F, eq_T, eq_F, and_true, true_and, and_false, false_and, or_true, true_or, or_false, false_or, and_self, or_self, not_true_eq_false, not_false_eq_true, implies_true, forall_const, true_implies, false_implies, ri_k, rn_k, rr_k, wr_bi, bi_e0, bi_e1, bi_T, bi_F, Classical.not_not, itp, itn, ck_t]
    · simp (disch := first | omega | (simp (disch := first | decide | omega) only [um_k, um_e, um_i, uz_k]; omega) | exact cat_i | exact cat_u | exact cat_r | assumption | exact rfl) only [b_278_0, hc, hh, wr_of, ↓reduceIte, ck_T, lt_T, lt_F, le_T, le_F, eq_T, eq_F, and_true, true_and, and_false, false_and, or_true, true_or, or_false, false_or, and_self, or_self, not_true_eq_false, not_false_eq_true, implies_true, forall_const, true_implies, false_implies, ri_k, rn_k, rr_k, wr_bi, bi_e0, bi_e1, bi_T, bi_F, Classical.not_not, itp, itn, ck_t]
end PS
