/-! Versions. -/
section VS
variable {e : List Int32 × Value} {d : Nat} {m : zMm}
theorem M_inForce {c h : Int} (hr : Rng m) (b3 : 0 ≤ m 247 3 ∧ m 247 3 ≤ 12) (hc : wr c = c) (hh : wr h = h) : Z e (d + 2) 220 0 [.ref 246, .int (iI (c)), .int (iI (h)), .retAddr 0, .retAddr 0] [] m = ri (vOf (m 247) (m 246 13) c h) m := by
  rw [b_220_0, lp0 (F := fun i y => Z e (d + 2) 220 5 [.ref 246, .int (iI (c)), .int (iI (h)), .int (iI (y)), .int (iI (i))] [] m) (f := fun v r => cif (m 247 (266 + 44 * v + 0) = c ∧ inFo (m 247) (m 246 13) v h) v r) (n := m 247 3) b3.1]
  · refine (b_220_5).trans ?_
    simp (disch := first | omega | (simp (disch := first | decide | omega) only [um_k, um_e, um_i, uz_k]; omega) | exact cat_i | exact cat_u | exact cat_r | assumption | exact rfl) only [hr _ _, wr_of, ↓reduceIte, ck_T, lt_T, lt_F, le_T, le_F, eq_T, eq_F, and_true, true_and, and_false, false_and, or_true, true_or, or_false, false_or, and_self, or_self, not_true_eq_false, not_false_eq_true, implies_true, forall_const, true_implies, false_implies, ri_k, rn_k, rr_k, wr_bi, bi_T, bi_F, Classical.not_not, itp, itn, ck_t]
    rfl
  · intro i y g1 g2
    refine (b_220_5).trans ?_
    have key : ∀ {α : Type} {A B : α}, (if m 247 (266 + 44 * i + 0) = c ∧ ¬ wr (if 0 ≤ m 246 13 then (if i = m 246 13 then 1 else 0) else (if (m 247 (266 + 44 * i + 1) ≤ h) ∧ ((m 247 (266 + 44 * i + 2) = -3) ∨ (h < m 247 (266 + 44 * i + 2))) then 1 else 0)) = 0 then A else B) = cif (m 247 (266 + 44 * i + 0) = c ∧ inFo (m 247) (m 246 13) i h) A B := by
      intro α A B
      rw [if_cif]
      refine cif_cg (and_congr Iff.rfl ?_)
      unfold inFo inF
      by_cases q1 : 0 ≤ m 246 13
      · rw [itp q1, wr_b]
        by_cases q2 : i = m 246 13
        · rw [itp q2]
          exact ⟨fun _ => Or.inl ⟨q1, q2⟩, fun _ => by decide⟩
        · rw [itn q2]
          exact ⟨fun q => absurd rfl q, fun q => by omega⟩
      · rw [itn q1, wr_b]
        by_cases q2 : (m 247 (266 + 44 * i + 1) ≤ h) ∧ ((m 247 (266 + 44 * i + 2) = -3) ∨ (h < m 247 (266 + 44 * i + 2)))
        · rw [itp q2]
          exact ⟨fun _ => Or.inr ⟨by omega, q2⟩, fun _ => by decide⟩
        · rw [itn q2]
          exact ⟨fun q => absurd rfl q, fun q => by
            rcases q with q | q
            · omega
            · exact absurd q.2 q2⟩
    have nb : nbp (if 0 ≤ m 246 13 then (if i = m 246 13 then 1 else 0) else (if (m 247 (266 + 44 * i + 1) ≤ h) ∧ ((m 247 (266 + 44 * i + 2) = -3) ∨ (h < m 247 (266 + 44 * i + 2))) then 1 else 0)) := by
      split <;> exact nb_b
    have o1 := hr 246 13
    have o2 := hr 247 3
    have o3 := hr 247 (266 + 44 * i + 0)
    have o4 := hr 247 (266 + 44 * i + 1)
    have o5 := hr 247 (266 + 44 * i + 2)
    rw [wr_of (x := i) (by omega) (by omega), o2, itp g2, wr_of (x := 266 + 44 * i + 0) (by omega) (by omega), wr_of (x := 266 + 44 * i + 1) (by omega) (by omega), wr_of (x := 266 + 44 * i + 2) (by omega) (by omega), o1, o3, o4, o5, hc, hh, ck_t (by omega), ck_t (fun _ => ⟨by omega, fun _ => by omega, nb⟩), key]
theorem vOf_none {N : Int → Int} {o c h : Int} (b3 : 0 ≤ N 3) (hn : ∀ v, 0 ≤ v → v < N 3 → ¬ (N (266 + 44 * v + 0) = c ∧ inFo N o v h)) : vOf N o c h = -1 := by
  unfold vOf
  have : ∀ (k : Nat) (j : Int), 0 ≤ j → j + k = N 3 → itr (fun v r => cif (N (266 + 44 * v + 0) = c ∧ inFo N o v h) v r) j k (-1) = -1 := by
    intro k
    induction k with
    | zero => intro j _ _; rfl
    | succ k ih =>
      intro j h0 h1
      rw [itr, cif_f (hn j h0 (by omega))]
      exact ih (j + 1) (by omega) (by omega)
  exact this (N 3).toNat 0 (by omega) (by omega)
theorem vOf_one {N : Int → Int} {o c h v : Int} (h0 : 0 ≤ v) (h1 : v < N 3) (hv : N (266 + 44 * v + 0) = c ∧ inFo N o v h) (hu : ∀ v', 0 ≤ v' → v' < N 3 → ¬ v' = v → ¬ (N (266 + 44 * v' + 0) = c ∧ inFo N o v' h)) : vOf N o c h = v := by
  unfold vOf
  have : ∀ (k : Nat) (j x : Int), 0 ≤ j → j + k = N 3 → (v < j → x = v) → itr (fun v r => cif (N (266 + 44 * v + 0) = c ∧ inFo N o v h) v r) j k x = v := by
    intro k
    induction k with
    | zero => intro j x _ g2 g3; exact g3 (by omega)
    | succ k ih =>
      intro j x g1 g2 g3
      rw [itr]
      by_cases hj : j = v
      · rw [cif_t (by rw [hj]; exact hv)]
        exact ih (j + 1) j (by omega) (by omega) (fun _ => hj)
      · rw [cif_f (hu j g1 (by omega) hj)]
        exact ih (j + 1) x (by omega) (by omega) (fun q => g3 (by omega))
  exact this (N 3).toNat 0 (-1) (by omega) (by omega) (fun q => by omega)
theorem vOf_b {N : Int → Int} {o c h : Int} (b3 : 0 ≤ N 3) : vOf N o c h = -1 ∨ (0 ≤ vOf N o c h ∧ vOf N o c h < N 3 ∧ N (266 + 44 * vOf N o c h + 0) = c ∧ inFo N o (vOf N o c h) h) := by
  unfold vOf
  have : ∀ (k : Nat) (j x : Int), 0 ≤ j → j + k = N 3 → (x = -1 ∨ (0 ≤ x ∧ x < N 3 ∧ N (266 + 44 * x + 0) = c ∧ inFo N o x h)) → (itr (fun v r => cif (N (266 + 44 * v + 0) = c ∧ inFo N o v h) v r) j k x = -1 ∨ (0 ≤ itr (fun v r => cif (N (266 + 44 * v + 0) = c ∧ inFo N o v h) v r) j k x ∧ itr (fun v r => cif (N (266 + 44 * v + 0) = c ∧ inFo N o v h) v r) j k x < N 3 ∧ N (266 + 44 * itr (fun v r => cif (N (266 + 44 * v + 0) = c ∧ inFo N o v h) v r) j k x + 0) = c ∧ inFo N o (itr (fun v r => cif (N (266 + 44 * v + 0) = c ∧ inFo N o v h) v r) j k x) h)) := by
    intro k
    induction k with
    | zero => intro j x _ _ g3; exact g3
    | succ k ih =>
      intro j x g1 g2 g3
      rw [itr]
      by_cases hj : N (266 + 44 * j + 0) = c ∧ inFo N o j h
      · rw [cif_t hj]
        exact ih (j + 1) j (by omega) (by omega) (Or.inr ⟨g1, by omega, hj⟩)
      · rw [cif_f hj]
        exact ih (j + 1) x (by omega) (by omega) g3
  exact this (N 3).toNat 0 (-1) (by omega) (by omega) (Or.inl rfl)
theorem call_version {v w : Int} (hI : Inv m) (hv : wr v = v) (hw : wr w = w) : Both (Z e d 151 0 [.ref 0, .int (iI (v)), .int (iI (w)), .retAddr 0] []) (Z e (d + 1) 245 0 [.ref 246, .int (iI (v)), .int (iI (w)), .retAddr 0, .retAddr 0] []) m := by
  obtain ⟨hr, ⟨iN, iG, iP, iH, iS, iD, iT, iO, iU, iR, iV⟩, iK, iL, iF, iB, iA, iW, iX⟩ := id hI
  have bN := iN
  unfold cNum at bN
  have i1 := wr_lo w
  have i2 := wr_hi w
  rw [hw] at i1 i2
  by_cases h1 : 0 ≤ v ∧ v < m 247 3
  · have q := iV.1 v h1.1 h1.2
    unfold vRow at q
    obtain ⟨q1, q2, q3, q4, q5⟩ := q
    by_cases w0 : w = 0
    · refine Both.same hI (m 247 (266 + 44 * v + 0)) ?_ ?_
      · simp (disch := first | omega | (simp (disch := first | decide | omega) only [um_k, um_e, um_i, uz_k]; omega) | exact cat_i | exact cat_u | exact cat_r | assumption | exact rfl) only [b_151_0, hv, hw, hr _ _, q1.1, wr_of, ↓reduceIte, ck_T, lt_T, lt_F, le_T, le_F, eq_T, eq_F, and_true, true_and, and_false, false_and, or_true, true_or, or_false, false_or, and_self, or_self, not_true_eq_false, not_false_eq_true, implies_true, forall_const, true_implies, false_implies, ri_k, rn_k, rr_k, wr_bi, bi_e0, bi_e1, bi_T, bi_F, Classical.not_not, itp, itn, ck_t]
      · simp (disch := first | omega | (simp (disch := first | decide | omega) only [um_k, um_e, um_i, uz_k]; omega) | exact cat_i | exact cat_u | exact cat_r | assumption | exact rfl) only [b_245_0, hv, hw, hr _ _, wr_of, ↓reduceIte, ck_T, lt_T, lt_F, le_T, le_F, eq_T, eq_F, and_true, true_and, and_false, false_and, or_true, true_or, or_false, false_or, and_self, or_self, not_true_eq_false, not_false_eq_true, implies_true, forall_const, true_implies, false_implies, ri_k, rn_k, rr_k, wr_bi, bi_e0, bi_e1, bi_T, bi_F, Classical.not_not, itp, itn, ck_t]
    · by_cases w1 : w = 1
      · refine Both.same hI (m 247 (266 + 44 * v + 3)) ?_ ?_
        · simp (disch := first | omega | (simp (disch := first | decide | omega) only [um_k, um_e, um_i, uz_k]; omega) | exact cat_i | exact cat_u | exact cat_r | assumption | exact rfl) only [b_151_0, hv, hw, hr _ _, q4.1, wr_of, ↓reduceIte, ck_T, lt_T, lt_F, le_T, le_F, eq_T, eq_F, and_true, true_and, and_false, false_and, or_true, true_or, or_false, false_or, and_self, or_self, not_true_eq_false, not_false_eq_true, implies_true, forall_const, true_implies, false_implies, ri_k, rn_k, rr_k, wr_bi, bi_e0, bi_e1, bi_T, bi_F, Classical.not_not, itp, itn, ck_t]
        · simp (disch := first | omega | (simp (disch := first | decide | omega) only [um_k, um_e, um_i, uz_k]; omega) | exact cat_i | exact cat_u | exact cat_r | assumption | exact rfl) only [b_245_0, hv, hw, hr _ _, wr_of, ↓reduceIte, ck_T, lt_T, lt_F, le_T, le_F, eq_T, eq_F, and_true, true_and, and_false, false_and, or_true, true_or, or_false, false_or, and_self, or_self, not_true_eq_false, not_false_eq_true, implies_true, forall_const, true_implies, false_implies, ri_k, rn_k, rr_k, wr_bi, bi_e0, bi_e1, bi_T, bi_F, Classical.not_not, itp, itn, ck_t]
      · by_cases w2 : w = 2
        · refine Both.same hI (m 247 (266 + 44 * v + 1)) ?_ ?_
          · simp (disch := first | omega | (simp (disch := first | decide | omega) only [um_k, um_e, um_i, uz_k]; omega) | exact cat_i | exact cat_u | exact cat_r | assumption | exact rfl) only [b_151_0, hv, hw, hr _ _, q2.1, wr_of, ↓reduceIte, ck_T, lt_T, lt_F, le_T, le_F, eq_T, eq_F, and_true, true_and, and_false, false_and, or_true, true_or, or_false, false_or, and_self, or_self, not_true_eq_false, not_false_eq_true, implies_true, forall_const, true_implies, false_implies, ri_k, rn_k, rr_k, wr_bi, bi_e0, bi_e1, bi_T, bi_F, Classical.not_not, itp, itn, ck_t]
          · simp (disch := first | omega | (simp (disch := first | decide | omega) only [um_k, um_e, um_i, uz_k]; omega) | exact cat_i | exact cat_u | exact cat_r | assumption | exact rfl) only [b_245_0, hv, hw, hr _ _, wr_of, ↓reduceIte, ck_T, lt_T, lt_F, le_T, le_F, eq_T, eq_F, and_true, true_and, and_false, false_and, or_true, true_or, or_false, false_or, and_self, or_self, not_true_eq_false, not_false_eq_true, implies_true, forall_const, true_implies, false_implies, ri_k, rn_k, rr_k, wr_bi, bi_e0, bi_e1, bi_T, bi_F, Classical.not_not, itp, itn, ck_t]
        · by_cases w3 : w = 3
          · refine Both.same hI (m 247 (266 + 44 * v + 2)) ?_ ?_
            · simp (disch := first | omega | (simp (disch := first | decide | omega) only [um_k, um_e, um_i, uz_k]; omega) | exact cat_i | exact cat_u | exact cat_r | assumption | exact rfl) only [b_151_0, hv, hw, hr _ _, q3.1, wr_of, ↓reduceIte, ck_T, lt_T, lt_F, le_T, le_F, eq_T, eq_F, and_true, true_and, and_false, false_and, or_true, true_or, or_false, false_or, and_self, or_self, not_true_eq_false, not_false_eq_true, implies_true, forall_const, true_implies, false_implies, ri_k, rn_k, rr_k, wr_bi, bi_e0, bi_e1, bi_T, bi_F, Classical.not_not, itp, itn, ck_t]
            · simp (disch := first | omega | (simp (disch := first | decide | omega) only [um_k, um_e, um_i, uz_k]; omega) | exact cat_i | exact cat_u | exact cat_r | assumption | exact rfl) only [b_245_0, hv, hw, hr _ _, wr_of, ↓reduceIte, ck_T, lt_T, lt_F, le_T, le_F, eq_T, eq_F, and_true, true_and, and_false, false_and, or_true, true_or, or_false, false_or, and_self, or_self, not_true_eq_false, not_false_eq_true, implies_true, forall_const, true_implies, false_implies, ri_k, rn_k, rr_k, wr_bi, bi_e0, bi_e1, bi_T, bi_F, Classical.not_not, itp, itn, ck_t]
          · by_cases w4 : w < 10
            · refine Both.same hI (-1) ?_ ?_
              · simp (disch := first | omega | (simp (disch := first | decide | omega) only [um_k, um_e, um_i, uz_k]; omega) | exact cat_i | exact cat_u | exact cat_r | assumption | exact rfl) only [b_151_0, hv, hw, hr _ _, wr_of, ↓reduceIte, ck_T, lt_T, lt_F, le_T, le_F, eq_T, eq_F, and_true, true_and, and_false, false_and, or_true, true_or, or_false, false_or, and_self, or_self, not_true_eq_false, not_false_eq_true, implies_true, forall_const, true_implies, false_implies, ri_k, rn_k, rr_k, wr_bi, bi_e0, bi_e1, bi_T, bi_F, Classical.not_not, itp, itn, ck_t]
              · simp (disch := first | omega | (simp (disch := first | decide | omega) only [um_k, um_e, um_i, uz_k]; omega) | exact cat_i | exact cat_u | exact cat_r | assumption | exact rfl) only [b_245_0, hv, hw, hr _ _, wr_of, ↓reduceIte, ck_T, lt_T, lt_F, le_T, le_F, eq_T, eq_F, and_true, true_and, and_false, false_and, or_true, true_or, or_false, false_or, and_self, or_self, not_true_eq_false, not_false_eq_true, implies_true, forall_const, true_implies, false_implies, ri_k, rn_k, rr_k, wr_bi, bi_e0, bi_e1, bi_T, bi_F, Classical.not_not, itp, itn, ck_t]
            · by_cases w5 : m 247 (266 + 44 * v + 3) ≤ w - 10
              · refine Both.same hI (-1) ?_ ?_
                · simp (disch := first | omega | (simp (disch := first | decide | omega) only [um_k, um_e, um_i, uz_k]; omega) | exact cat_i | exact cat_u | exact cat_r | assumption | exact rfl) only [b_151_0, hv, hw, hr _ _, q4.1, wr_of, ↓reduceIte, ck_T, lt_T, lt_F, le_T, le_F, eq_T, eq_F, and_true, true_and, and_false, false_and, or_true, true_or, or_false, false_or, and_self, or_self, not_true_eq_false, not_false_eq_true, implies_true, forall_const, true_implies, false_implies, ri_k, rn_k, rr_k, wr_bi, bi_e0, bi_e1, bi_T, bi_F, Classical.not_not, itp, itn, ck_t]
                · simp (disch := first | omega | (simp (disch := first | decide | omega) only [um_k, um_e, um_i, uz_k]; omega) | exact cat_i | exact cat_u | exact cat_r | assumption | exact rfl) only [b_245_0, hv, hw, hr _ _, wr_of, ↓reduceIte, ck_T, lt_T, lt_F, le_T, le_F, eq_T, eq_F, and_true, true_and, and_false, false_and, or_true, true_or, or_false, false_or, and_self, or_self, not_true_eq_false, not_false_eq_true, implies_true, forall_const, true_implies, false_implies, ri_k, rn_k, rr_k, wr_bi, bi_e0, bi_e1, bi_T, bi_F, Classical.not_not, itp, itn, ck_t]
              · have ql := q5 (w - 10) (by omega) (by omega)
                unfold lRow at ql
                refine Both.same hI (1000 * m 247 (266 + 44 * v + (4 + 4 * (w - 10))) + m 247 (266 + 44 * v + (4 + 4 * (w - 10) + 1))) ?_ ?_
                · simp (disch := first | omega | (simp (disch := first | decide | omega) only [um_k, um_e, um_i, uz_k]; omega) | exact cat_i | exact cat_u | exact cat_r | assumption | exact rfl) only [b_151_0, hv, hw, hr _ _, q4.1, ql.1.1, ql.2.1.1, wr_of, ↓reduceIte, ck_T, lt_T, lt_F, le_T, le_F, eq_T, eq_F, and_true, true_and, and_false, false_and, or_true, true_or, or_false, false_or, and_self, or_self, not_true_eq_false, not_false_eq_true, implies_true, forall_const, true_implies, false_implies, ri_k, rn_k, rr_k, wr_bi, bi_e0, bi_e1, bi_T, bi_F, Classical.not_not, itp, itn, ck_t]
                · simp (disch := first | omega | (simp (disch := first | decide | omega) only [um_k, um_e, um_i, uz_k]; omega) | exact cat_i | exact cat_u | exact cat_r | assumption | exact rfl) only [b_245_0, hv, hw, hr _ _, wr_of, ↓reduceIte, ck_T, lt_T, lt_F, le_T, le_F, eq_T, eq_F, and_true, true_and, and_false, false_and, or_true, true_or, or_false, false_or, and_self, or_self, not_true_eq_false, not_false_eq_true, implies_true, forall_const, true_implies, false_implies, ri_k, rn_k, rr_k, wr_bi, bi_e0, bi_e1, bi_T, bi_F, Classical.not_not, itp, itn, ck_t]
  · refine Both.same hI (-1) ?_ ?_
    · simp (disch := first | omega | (simp (disch := first | decide | omega) only [um_k, um_e, um_i, uz_k]; omega) | exact cat_i | exact cat_u | exact cat_r | assumption | exact rfl) only [b_151_0, hv, hw, hr _ _, wr_of, ↓reduceIte, ck_T, lt_T, lt_F, le_T, le_F, eq_T, eq_F, and_true, true_and, and_false, false_and, or_true, true_or, or_false, false_or, and_self, or_self, not_true_eq_false, not_false_eq_true, implies_true, forall_const, true_implies, false_implies, ri_k, rn_k, rr_k, wr_bi, bi_e0, bi_e1, bi_T, bi_F, Classical.not_not, itp, itn, ck_t]
    · simp (disch := first | omega | (simp (disch := first | decide | omega) only [um_k, um_e, um_i, uz_k]; omega) | exact cat_i | exact cat_u | exact cat_r | assumption | exact rfl) only [b_245_0, hv, hw, hr _ _, wr_of, ↓reduceIte, ck_T, lt_T, lt_F, le_T, le_F, eq_T, eq_F, and_true, true_and, and_false, false_and, or_true, true_or, or_false, false_or, and_self, or_self, not_true_eq_false, not_false_eq_true, implies_true, forall_const, true_implies, false_implies, ri_k, rn_k, rr_k, wr_bi, bi_e0, bi_e1, bi_T, bi_F, Classical.not_not, itp, itn, ck_t]
/-- the version of a charter that has no end -/
theorem open_cases (iN : cNum m (m 247)) (iV : cVer m (m 247)) (c : Int) : (∃ v, 0 ≤ v ∧ v < m 247 3 ∧ m 247 (266 + 44 * v + 0) = c ∧ m 247 (266 + 44 * v + 2) = -3 ∧ ∀ v', 0 ≤ v' → v' < m 247 3 → ¬ v' = v → ¬ (m 247 (266 + 44 * v' + 0) = c ∧ m 247 (266 + 44 * v' + 2) = -3)) ∨ (∀ v, 0 ≤ v → v < m 247 3 → ¬ (m 247 (266 + 44 * v + 0) = c ∧ m 247 (266 + 44 * v + 2) = -3)) := by
  by_cases h : ∃ v, 0 ≤ v ∧ v < m 247 3 ∧ m 247 (266 + 44 * v + 0) = c ∧ m 247 (266 + 44 * v + 2) = -3
  · obtain ⟨v, h0, h1, h2, h3⟩ := h
    refine Or.inl ⟨v, h0, h1, h2, h3, fun v' g0 g1 g2 g3 => ?_⟩
    by_cases hlt : v' < v
    · exact (iV.2 v' v g0 hlt h1 (by rw [g3.1, h2])).1 g3.2
    · exact (iV.2 v v' h0 (by omega) g1 (by rw [g3.1, h2])).1 h3
  · exact Or.inr (fun v g0 g1 g2 => h ⟨v, g0, g1, g2.1, g2.2⟩)
theorem now_inF (iV : cVer m (m 247)) {o v : Int} (ho : o = -1) (h0 : 0 ≤ v) (h1 : v < m 247 3) : inFo (m 247) o v (m 247 0) ↔ m 247 (266 + 44 * v + 2) = -3 := by
  have q := iV.1 v h0 h1
  unfold vRow at q
  obtain ⟨q1, q2, q3, q4, q5⟩ := q
  unfold inFo inF
  subst ho
  omega
theorem W_open {c : Int} (hr : Rng m) (iN : cNum m (m 247)) (iV : cVer m (m 247)) (hc : wr c = c) : ∃ v, Z e d 135 0 [.ref 1, .int (iI (c)), .retAddr 0] [] m = ri v m ∧ ((v = -3 ∧ vOf (m 247) (-1) c (m 247 0) = -1) ∨ (0 ≤ v ∧ v < m 247 3 ∧ vOf (m 247) (-1) c (m 247 0) = v ∧ m 247 (266 + 44 * v + 0) = c ∧ m 247 (266 + 44 * v + 2) = -3)) := by
  have bN := iN
  unfold cNum at bN
  rw [b_135_0]
  have key := lpE (F := fun j => Z e d 135 2 [.ref 1, .int (iI (c)), .int (iI (j))] [] m) (P := fun j => m 247 (266 + 44 * j + 0) = c ∧ m 247 (266 + 44 * j + 2) = -3) (n := m 247 3) (A := fun j => ri j m) (B := ri (-3) m) (m 247 3).toNat 0 (by omega)
    (by
      intro i g1 g2 g3
      have q := iV.1 i g1 g2
      unfold vRow at q
      refine (b_135_2).trans ?_
      simp (disch := first | omega | (simp (disch := first | decide | omega) only [um_k, um_e, um_i, uz_k]; omega) | exact cat_i | exact cat_u | exact cat_r | assumption | exact rfl) only [hr _ _, hc, q.1.1, q.2.2.1.1, wr_of, ↓reduceIte, ck_T, lt_T, lt_F, le_T, le_F, eq_T, eq_F, and_true, true_and, and_false, false_and, or_true, true_or, or_false, false_or, and_self, or_self, not_true_eq_false, not_false_eq_true, implies_true, forall_const, true_implies, false_implies, ri_k, rn_k, rr_k, wr_bi, bi_e0, bi_e1, bi_T, bi_F, Classical.not_not, itp, itn, ck_t])
    (by
      intro i g1 g2 g3
      have q := iV.1 i g1 g2
      unfold vRow at q
      refine (b_135_2).trans ?_
      simp (disch := first | omega | (simp (disch := first | decide | omega) only [um_k, um_e, um_i, uz_k]; omega) | exact cat_i | exact cat_u | exact cat_r | assumption | exact rfl) only [hr _ _, hc, q.1.1, q.2.2.1.1, wr_of, ↓reduceIte, ck_T, lt_T, lt_F, le_T, le_F, eq_T, eq_F, and_true, true_and, and_false, false_and, or_true, true_or, or_false, false_or, and_self, or_self, not_true_eq_false, not_false_eq_true, implies_true, forall_const, true_implies, false_implies, ri_k, rn_k, rr_k, wr_bi, bi_e0, bi_e1, bi_T, bi_F, Classical.not_not, itp, itn, ck_t])
    (by
      refine (b_135_2).trans ?_
      simp (disch := first | omega | (simp (disch := first | decide | omega) only [um_k, um_e, um_i, uz_k]; omega) | exact cat_i | exact cat_u | exact cat_r | assumption | exact rfl) only [hr _ _, wr_of, ↓reduceIte, ck_T, lt_T, lt_F, le_T, le_F, eq_T, eq_F, and_true, true_and, and_false, false_and, or_true, true_or, or_false, false_or, and_self, or_self, not_true_eq_false, not_false_eq_true, implies_true, forall_const, true_implies, false_implies, ri_k, rn_k, rr_k, wr_bi, bi_e0, bi_e1, bi_T, bi_F, Classical.not_not, itp, itn, ck_t])
  rcases key with ⟨i, g1, g2, g3, g4, g5⟩ | ⟨g1, g2⟩
  · refine ⟨i, g5, Or.inr ⟨g1, g2, ?_, g3⟩⟩
    refine vOf_one g1 g2 ⟨g3.1, (now_inF iV rfl g1 g2).mpr g3.2⟩ (fun v' k0 k1 k2 k3 => ?_)
    have k4 := (now_inF iV rfl k0 k1).mp k3.2
    by_cases hlt : v' < i
    · exact (iV.2 v' i k0 hlt g2 (by rw [k3.1, g3.1])).1 k4
    · exact (iV.2 i v' g1 (by omega) k1 (by rw [k3.1, g3.1])).1 g3.2
  · refine ⟨-3, g2, Or.inl ⟨rfl, vOf_none (by omega) (fun v k0 k1 k2 => g1 v k0 k1 ⟨k2.1, (now_inF iV rfl k0 k1).mp k2.2⟩)⟩⟩
end VS
