/-! gap: the runs. -/
section GQ
variable {e : List Int32 × Value} {d : Nat} {m : zMm}
noncomputable def gpF (N : Int → Int) (c : Int) : Int → Int × Int → Int × Int := fun i y => (if cif (seen N c (i % 24)) 0 (y.2 + 1) ≤ y.1 then y.1 else cif (seen N c (i % 24)) 0 (y.2 + 1), cif (seen N c (i % 24)) 0 (y.2 + 1))
theorem call_gap {s : Int} (hI : Inv m) (hs : wr s = s) : Both (Z e (d + 5) 175 0 [.ref 0, .int (iI (s))] []) (Z e (d + 3) 291 0 [.ref 246, .int (iI (s)), .retAddr 0, .retAddr 0, .retAddr 0] []) m := by
  obtain ⟨hr, ⟨iN, iG, iP, iH, iS, iD, iT, iO, iU, iR, iV⟩, iK, iL, iF, iB, iA, iW, iX⟩ := id hI
  have bN := iN
  unfold cNum at bN
  by_cases h1 : 0 ≤ s ∧ s < m 247 2
  · have q := iS s h1.1 h1.2
    obtain ⟨K, k1, k2, k3⟩ := P_clocks (e := e) (d := d) (c := m 247 (254 + 2 * s)) hr iN iO q.1.2.1 q.1.2.2
    have b6 : 0 ≤ m 247 6 ∧ m 247 6 ≤ 8 := bN.2.2.2.2.2.2.1.2
    have sb : ∀ h, 0 ≤ h → h < 24 → Z e (d + 2) 277 0 [.ref 246, .int (iI ((m 247 (254 + 2 * s)))), .int (iI (h)), .retAddr 0, .retAddr 0, .retAddr 0, .retAddr 0, .retAddr 0] [] m = ri (seeS (m 247) (m 247 (254 + 2 * s)) h) m := fun h g1 g2 => M_seenBy hr b6 (pos_b iO) q.1.2.1 q.1.2.2 g1 g2
    by_cases hK : K = 0
    · have none : ∀ h, 0 ≤ h → h < 24 → seeS (m 247) (m 247 (254 + 2 * s)) h = 0 := fun h g1 g2 => by
        apply Classical.byContradiction
        intro hc
        have := (k3 h g1 g2).mpr ((seen_S b6).mp hc)
        rw [hK] at this
        exact tb_0 this
      have key := lpG (F := fun i (y : Int × Int) (_ : Unit) => Z e (d + 3) 291 25 [.ref 246, .int (iI s), .int (iI y.1), .int (iI y.2), .int (iI i)] [] m) (G := fun y => ri y.1 m) (f := fun i _ => (if i + 1 ≤ 24 then i + 1 else 24, i + 1)) (I := fun i y => y = (if i ≤ 24 then i else 24, i)) (n := 48) (by decide) (0, 0) () rfl
        (by
          intro i y u g1 g2 gI
          refine ⟨⟨(), ?_⟩, rfl⟩
          subst gI
          have n0 := none (i % 24) (by omega) (by omega)
          have s0 := sb (i % 24) (by omega) (by omega)
          rw [n0] at s0
          refine (b_291_25).trans ?_
          have wc : wr (254 + 2 * s) = 254 + 2 * s := wr_of (by omega) (by omega)
          by_cases c1 : i + 1 ≤ 24
          · by_cases c2 : i + 1 = 24
            · simp (disch := first | omega | (simp (disch := first | decide | omega) only [um_k, um_e, um_i, uz_k]; omega) | exact cat_i | exact cat_u | exact cat_r | assumption | exact rfl) only [b_291_53, jrem_n, wc, s0, wr_of, ↓reduceIte, ck_T, lt_T, lt_F, le_T, le_F, eq_T, eq_F, and_true, true_and, and_false, false_and, or_true, true_or, or_false, false_or, and_self, or_self, not_true_eq_false, not_false_eq_true, implies_true, forall_const, true_implies, false_implies, ri_k, rn_k, rr_k, wr_bi, bi_e0, bi_e1, bi_T, bi_F, Classical.not_not, itp, itn, ck_t]
              congr 6
              omega
            · simp (disch := first | omega | (simp (disch := first | decide | omega) only [um_k, um_e, um_i, uz_k]; omega) | exact cat_i | exact cat_u | exact cat_r | assumption | exact rfl) only [b_291_53, jrem_n, wc, s0, wr_of, ↓reduceIte, ck_T, lt_T, lt_F, le_T, le_F, eq_T, eq_F, and_true, true_and, and_false, false_and, or_true, true_or, or_false, false_or, and_self, or_self, not_true_eq_false, not_false_eq_true, implies_true, forall_const, true_implies, false_implies, ri_k, rn_k, rr_k, wr_bi, bi_e0, bi_e1, bi_T, bi_F, Classical.not_not, itp, itn, ck_t]
          · have hm : (if i ≤ 24 then i else 24) = 24 := by split <;> omega
            simp (disch := first | omega | (simp (disch := first | decide | omega) only [um_k, um_e, um_i, uz_k]; omega) | exact cat_i | exact cat_u | exact cat_r | assumption | exact rfl) only [b_291_53, jrem_n, wc, s0, wr_of, ↓reduceIte, ck_T, lt_T, lt_F, le_T, le_F, eq_T, eq_F, and_true, true_and, and_false, false_and, or_true, true_or, or_false, false_or, and_self, or_self, not_true_eq_false, not_false_eq_true, implies_true, forall_const, true_implies, false_implies, ri_k, rn_k, rr_k, wr_bi, bi_e0, bi_e1, bi_T, bi_F, Classical.not_not, itp, itn, ck_t]
            rw [hm])
        (by
          intro y u gI
          refine (b_291_25).trans ?_
          simp (disch := first | omega | (simp (disch := first | decide | omega) only [um_k, um_e, um_i, uz_k]; omega) | exact cat_i | exact cat_u | exact cat_r | assumption | exact rfl) only [wr_of, ↓reduceIte, ck_T, lt_T, lt_F, le_T, le_F, eq_T, eq_F, and_true, true_and, and_false, false_and, or_true, true_or, or_false, false_or, and_self, or_self, not_true_eq_false, not_false_eq_true, implies_true, forall_const, true_implies, false_implies, ri_k, rn_k, rr_k, wr_bi, bi_e0, bi_e1, bi_T, bi_F, Classical.not_not, itp, itn, ck_t])
      have k4 := key.2
      refine Both.same hI 24 ?_ ?_
      · simp (disch := first | omega | (simp (disch := first | decide | omega) only [um_k, um_e, um_i, uz_k]; omega) | exact cat_i | exact cat_u | exact cat_r | assumption | exact rfl) only [b_175_0, b_175_32, b_175_35, b_57_0, b_57_5 cat_i, hs, hr _ _, get_6, q.1.1, k1, hK, wr_of, ↓reduceIte, ck_T, lt_T, lt_F, le_T, le_F, eq_T, eq_F, and_true, true_and, and_false, false_and, or_true, true_or, or_false, false_or, and_self, or_self, not_true_eq_false, not_false_eq_true, implies_true, forall_const, true_implies, false_implies, ri_k, rn_k, rr_k, wr_bi, bi_e0, bi_e1, bi_T, bi_F, Classical.not_not, itp, itn, ck_t]
      · have : ri (24 : Int) m = ri (itr (fun i (_ : Int × Int) => (if i + 1 ≤ 24 then i + 1 else 24, i + 1)) 0 (48 : Int).toNat (0, 0)).1 m := by rw [k4]; rfl
        rw [this, ← key.1]
        simp (disch := first | omega | (simp (disch := first | decide | omega) only [um_k, um_e, um_i, uz_k]; omega) | exact cat_i | exact cat_u | exact cat_r | assumption | exact rfl) only [b_291_0, hs, hr _ _, wr_of, ↓reduceIte, ck_T, lt_T, lt_F, le_T, le_F, eq_T, eq_F, and_true, true_and, and_false, false_and, or_true, true_or, or_false, false_or, and_self, or_self, not_true_eq_false, not_false_eq_true, implies_true, forall_const, true_implies, false_implies, ri_k, rn_k, rr_k, wr_bi, bi_e0, bi_e1, bi_T, bi_F, Classical.not_not, itp, itn, ck_t]
    · obtain ⟨h, t1, t2⟩ := tb_ex k2.1 hK
      have t3 : h < 24 := tb_lt (n := 24) (by omega) t1 t2
      have t4 := (k3 h t1 t3).mp t2
      have kp := lpG (F := fun i (y : Int × Int) (_ : Unit) => Z e (d + 4) 57 21 [.ref 206, .int (iI (m 247 (254 + 2 * s))), .int (iI K), .int (iI y.1), .int (iI y.2), .int (iI i)] [] m) (G := fun y => ri y.1 m) (f := gpF (m 247) (m 247 (254 + 2 * s))) (I := fun i y => (0 ≤ y.1 ∧ y.1 ≤ i) ∧ (0 ≤ y.2 ∧ y.2 ≤ i)) (n := 48) (by decide) (0, 0) () (by decide)
        (by
          intro i y u g1 g2 gI
          have jb := jbit (x := K) (h := i % 24) k2.1 (by omega) (by omega) (by omega)
          have tk := k3 (i % 24) (by omega) (by omega)
          unfold gpF
          by_cases c1 : seen (m 247) (m 247 (254 + 2 * s)) (i % 24)
          · rw [cif_t c1]
            rw [bi_t (tk.mpr c1)] at jb
            refine ⟨⟨(), ?_⟩, ?_⟩
            · refine (b_57_21).trans ?_
              simp (disch := first | omega | (simp (disch := first | decide | omega) only [um_k, um_e, um_i, uz_k]; omega) | exact cat_i | exact cat_u | exact cat_r | assumption | exact rfl) only [jrem_n, jb, wr_of, ↓reduceIte, ck_T, lt_T, lt_F, le_T, le_F, eq_T, eq_F, and_true, true_and, and_false, false_and, or_true, true_or, or_false, false_or, and_self, or_self, not_true_eq_false, not_false_eq_true, implies_true, forall_const, true_implies, false_implies, ri_k, rn_k, rr_k, wr_bi, bi_e0, bi_e1, bi_T, bi_F, Classical.not_not, itp, itn, ck_t]
            · dsimp only
              rw [if_pos gI.1.1]
              omega
          · rw [cif_f c1]
            rw [bi_f (fun z => c1 (tk.mp z))] at jb
            refine ⟨⟨(), ?_⟩, ?_⟩
            · refine (b_57_21).trans ?_
              by_cases c2 : y.2 + 1 ≤ y.1
              · simp (disch := first | omega | (simp (disch := first | decide | omega) only [um_k, um_e, um_i, uz_k]; omega) | exact cat_i | exact cat_u | exact cat_r | assumption | exact rfl) only [jrem_n, jb, wr_of, ↓reduceIte, ck_T, lt_T, lt_F, le_T, le_F, eq_T, eq_F, and_true, true_and, and_false, false_and, or_true, true_or, or_false, false_or, and_self, or_self, not_true_eq_false, not_false_eq_true, implies_true, forall_const, true_implies, false_implies, ri_k, rn_k, rr_k, wr_bi, bi_e0, bi_e1, bi_T, bi_F, Classical.not_not, itp, itn, ck_t]
              · simp (disch := first | omega | (simp (disch := first | decide | omega) only [um_k, um_e, um_i, uz_k]; omega) | exact cat_i | exact cat_u | exact cat_r | assumption | exact rfl) only [jrem_n, jb, wr_of, ↓reduceIte, ck_T, lt_T, lt_F, le_T, le_F, eq_T, eq_F, and_true, true_and, and_false, false_and, or_true, true_or, or_false, false_or, and_self, or_self, not_true_eq_false, not_false_eq_true, implies_true, forall_const, true_implies, false_implies, ri_k, rn_k, rr_k, wr_bi, bi_e0, bi_e1, bi_T, bi_F, Classical.not_not, itp, itn, ck_t]
            · dsimp only
              by_cases c2 : y.2 + 1 ≤ y.1
              · rw [if_pos c2]; omega
              · rw [if_neg c2]; omega)
        (by
          intro y u gI
          refine (b_57_21).trans ?_
          simp (disch := first | omega | (simp (disch := first | decide | omega) only [um_k, um_e, um_i, uz_k]; omega) | exact cat_i | exact cat_u | exact cat_r | assumption | exact rfl) only [wr_of, ↓reduceIte, ck_T, lt_T, lt_F, le_T, le_F, eq_T, eq_F, and_true, true_and, and_false, false_and, or_true, true_or, or_false, false_or, and_self, or_self, not_true_eq_false, not_false_eq_true, implies_true, forall_const, true_implies, false_implies, ri_k, rn_k, rr_k, wr_bi, bi_e0, bi_e1, bi_T, bi_F, Classical.not_not, itp, itn, ck_t])
      have km := lpG (F := fun i (y : Int × Int) (_ : Unit) => Z e (d + 3) 291 25 [.ref 246, .int (iI s), .int (iI y.1), .int (iI y.2), .int (iI i)] [] m) (G := fun y => ri y.1 m) (f := gpF (m 247) (m 247 (254 + 2 * s))) (I := fun i y => (0 ≤ y.1 ∧ y.1 ≤ i) ∧ 0 ≤ y.2 ∧ (i ≤ h → y.2 ≤ i) ∧ (h < i → i ≤ h + 24 → y.2 ≤ i - h - 1) ∧ (h + 24 < i → y.2 ≤ i - h - 25)) (n := 48) (by decide) (0, 0) () ⟨by decide, by decide, fun _ => by decide, fun _ _ => by dsimp only; omega, fun _ => by dsimp only; omega⟩
        (by
          intro i y u g1 g2 gI
          have ss := seen_S (N := m 247) (c := m 247 (254 + 2 * s)) (h := i % 24) b6
          have s0 := sb (i % 24) (by omega) (by omega)
          have wc : wr (254 + 2 * s) = 254 + 2 * s := wr_of (by omega) (by omega)
          have wS : wr (seeS (m 247) (m 247 (254 + 2 * s)) (i % 24)) = seeS (m 247) (m 247 (254 + 2 * s)) (i % 24) := by
            have b := bset (P := seeP (m 247) (m 247 (254 + 2 * s)) (i % 24)) (n := m 247 6) b6.1 (by omega)
            have b2 := (pow_b (s := m 247 6) (n := 9) b6.1 (by omega)).2
            exact wr_of (by have := b.1.1; unfold seeS; omega) (by have := b.1.2; unfold seeS; omega)
          unfold gpF
          by_cases c1 : seen (m 247) (m 247 (254 + 2 * s)) (i % 24)
          · rw [cif_t c1]
            have c3 := ss.mpr c1
            refine ⟨⟨(), ?_⟩, ?_⟩
            · refine (b_291_25).trans ?_
              simp (disch := first | omega | (simp (disch := first | decide | omega) only [um_k, um_e, um_i, uz_k]; omega) | exact cat_i | exact cat_u | exact cat_r | assumption | exact rfl) only [b_291_53, jrem_n, wc, s0, wS, c3, wr_of, ↓reduceIte, ck_T, lt_T, lt_F, le_T, le_F, eq_T, eq_F, and_true, true_and, and_false, false_and, or_true, true_or, or_false, false_or, and_self, or_self, not_true_eq_false, not_false_eq_true, implies_true, forall_const, true_implies, false_implies, ri_k, rn_k, rr_k, wr_bi, bi_e0, bi_e1, bi_T, bi_F, Classical.not_not, itp, itn, ck_t]
            · dsimp only
              rw [if_pos gI.1.1]
              omega
          · rw [cif_f c1]
            have c3 : seeS (m 247) (m 247 (254 + 2 * s)) (i % 24) = 0 := Classical.byContradiction (fun z => c1 (ss.mp z))
            have n1 : ¬ i = h := fun z => c1 (by rw [z, Int.emod_eq_of_lt t1 t3]; exact t4)
            have n2 : ¬ i = h + 24 := fun z => c1 (by rw [z, Int.add_emod_right, Int.emod_eq_of_lt t1 t3]; exact t4)
            rw [c3] at s0
            refine ⟨⟨(), ?_⟩, ?_⟩
            · refine (b_291_25).trans ?_
              by_cases c2 : y.2 + 1 ≤ y.1
              · simp (disch := first | omega | (simp (disch := first | decide | omega) only [um_k, um_e, um_i, uz_k]; omega) | exact cat_i | exact cat_u | exact cat_r | assumption | exact rfl) only [b_291_53, jrem_n, wc, s0, wr_of, ↓reduceIte, ck_T, lt_T, lt_F, le_T, le_F, eq_T, eq_F, and_true, true_and, and_false, false_and, or_true, true_or, or_false, false_or, and_self, or_self, not_true_eq_false, not_false_eq_true, implies_true, forall_const, true_implies, false_implies, ri_k, rn_k, rr_k, wr_bi, bi_e0, bi_e1, bi_T, bi_F, Classical.not_not, itp, itn, ck_t]
              · simp (disch := first | omega | (simp (disch := first | decide | omega) only [um_k, um_e, um_i, uz_k]; omega) | exact cat_i | exact cat_u | exact cat_r | assumption | exact rfl) only [b_291_53, jrem_n, wc, s0, wr_of, ↓reduceIte, ck_T, lt_T, lt_F, le_T, le_F, eq_T, eq_F, and_true, true_and, and_false, false_and, or_true, true_or, or_false, false_or, and_self, or_self, not_true_eq_false, not_false_eq_true, implies_true, forall_const, true_implies, false_implies, ri_k, rn_k, rr_k, wr_bi, bi_e0, bi_e1, bi_T, bi_F, Classical.not_not, itp, itn, ck_t]
            · dsimp only
              by_cases c2 : y.2 + 1 ≤ y.1
              · rw [if_pos c2]; omega
              · rw [if_neg c2]; omega)
        (by
          intro y u gI
          refine (b_291_25).trans ?_
          simp (disch := first | omega | (simp (disch := first | decide | omega) only [um_k, um_e, um_i, uz_k]; omega) | exact cat_i | exact cat_u | exact cat_r | assumption | exact rfl) only [wr_of, ↓reduceIte, ck_T, lt_T, lt_F, le_T, le_F, eq_T, eq_F, and_true, true_and, and_false, false_and, or_true, true_or, or_false, false_or, and_self, or_self, not_true_eq_false, not_false_eq_true, implies_true, forall_const, true_implies, false_implies, ri_k, rn_k, rr_k, wr_bi, bi_e0, bi_e1, bi_T, bi_F, Classical.not_not, itp, itn, ck_t])
      refine Both.same hI (itr (gpF (m 247) (m 247 (254 + 2 * s))) 0 (48 : Int).toNat (0, 0)).1 ?_ ?_
      · rw [← kp.1]
        simp (disch := first | omega | (simp (disch := first | decide | omega) only [um_k, um_e, um_i, uz_k]; omega) | exact cat_i | exact cat_u | exact cat_r | assumption | exact rfl) only [b_175_0, b_175_32, b_57_0, b_57_5 cat_i, hs, hr _ _, get_6, q.1.1, k1, wr_of, ↓reduceIte, ck_T, lt_T, lt_F, le_T, le_F, eq_T, eq_F, and_true, true_and, and_false, false_and, or_true, true_or, or_false, false_or, and_self, or_self, not_true_eq_false, not_false_eq_true, implies_true, forall_const, true_implies, false_implies, ri_k, rn_k, rr_k, wr_bi, bi_e0, bi_e1, bi_T, bi_F, Classical.not_not, itp, itn, ck_t]
        rw [kp.1, ri_k, b_175_35]
      · rw [← km.1]
        simp (disch := first | omega | (simp (disch := first | decide | omega) only [um_k, um_e, um_i, uz_k]; omega) | exact cat_i | exact cat_u | exact cat_r | assumption | exact rfl) only [b_291_0, hs, hr _ _, wr_of, ↓reduceIte, ck_T, lt_T, lt_F, le_T, le_F, eq_T, eq_F, and_true, true_and, and_false, false_and, or_true, true_or, or_false, false_or, and_self, or_self, not_true_eq_false, not_false_eq_true, implies_true, forall_const, true_implies, false_implies, ri_k, rn_k, rr_k, wr_bi, bi_e0, bi_e1, bi_T, bi_F, Classical.not_not, itp, itn, ck_t]
  · refine Both.same hI (-1) ?_ ?_
    · simp (disch := first | omega | (simp (disch := first | decide | omega) only [um_k, um_e, um_i, uz_k]; omega) | exact cat_i | exact cat_u | exact cat_r | assumption | exact rfl) only [b_175_0, hs, hr _ _, wr_of, ↓reduceIte, ck_T, lt_T, lt_F, le_T, le_F, eq_T, eq_F, and_true, true_and, and_false, false_and, or_true, true_or, or_false, false_or, and_self, or_self, not_true_eq_false, not_false_eq_true, implies_true, forall_const, true_implies, false_implies, ri_k, rn_k, rr_k, wr_bi, bi_e0, bi_e1, bi_T, bi_F, Classical.not_not, itp, itn, ck_t]
    · simp (disch := first | omega | (simp (disch := first | decide | omega) only [um_k, um_e, um_i, uz_k]; omega) | exact cat_i | exact cat_u | exact cat_r | assumption | exact rfl) only [b_291_0, hs, hr _ _, wr_of, ↓reduceIte, ck_T, lt_T, lt_F, le_T, le_F, eq_T, eq_F, and_true, true_and, and_false, false_and, or_true, true_or, or_false, false_or, and_self, or_self, not_true_eq_false, not_false_eq_true, implies_true, forall_const, true_implies, false_implies, ri_k, rn_k, rr_k, wr_bi, bi_e0, bi_e1, bi_T, bi_F, Classical.not_not, itp, itn, ck_t]
end GQ
