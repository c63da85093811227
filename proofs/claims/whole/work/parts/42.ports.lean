/-! Ports, oaths. -/
section PO
variable {e : List Int32 × Value} {d : Nat} {m : zMm}
theorem call_port {p w v : Int} (hI : Inv m) (hp : wr p = p) (hw : wr w = w) (hv : wr v = v) : Both (Z e (d + 1) 163 0 [.ref 0, .int (iI (p)), .int (iI (w)), .int (iI (v)), .retAddr 0, .retAddr 0, .retAddr 0] []) (Z e (d + 1) 271 0 [.ref 246, .int (iI (p)), .int (iI (w)), .int (iI (v)), .retAddr 0] []) m := by
  obtain ⟨hr, ⟨iN, iG, iP, iH, iS, iD, iT, iO, iU, iR, iV⟩, iK, iL, iF, iB, iA, iW, iX⟩ := id hI
  have bN := iN
  unfold cNum at bN
  by_cases h1 : 0 ≤ p ∧ p < 5 ∧ 0 ≤ w ∧ w ≤ 2
  · have q := (iR p h1.1 h1.2.1).1 w h1.2.2.1 (by omega)
    have q2 := (iR p h1.1 h1.2.1).2
    by_cases h2 : (w = 2 ∧ 0 ≤ v ∧ v ≤ 29) ∨ (¬ w = 2 ∧ 1 ≤ v ∧ v ≤ 30)
    · refine ⟨m 247 (1282 + 3 * p + w), um m 11 (p * 3 + w) v, um (um m 11 (p * 3 + w) v) 247 (1282 + 3 * p + w) v, ?_, ?_, ?_⟩
      · by_cases h3 : w = 2
        · simp (disch := first | omega | (simp (disch := decide) only [um_k]; omega) | exact cat_i | exact cat_u | exact cat_r | assumption | exact rfl) only [b_163_0, b_163_77, b_163_92, hp, hw, hv, hr _ _, get_10, set_10, q, wr_of, ↓reduceIte, ck_T, lt_T, lt_F, le_T, le_F, eq_T, eq_F, and_true, true_and, and_false, false_and, or_true, true_or, or_false, false_or, and_self, or_self, not_true_eq_false, not_false_eq_true, implies_true, forall_const, true_implies, false_implies, ri_k, rn_k, rr_k, wr_bi, bi_e0, bi_e1, bi_T, bi_F, Classical.not_not, itp, itn, ck_t]
        · simp (disch := first | omega | (simp (disch := decide) only [um_k]; omega) | exact cat_i | exact cat_u | exact cat_r | assumption | exact rfl) only [b_163_0, b_163_77, b_163_92, hp, hw, hv, hr _ _, get_10, set_10, q, wr_of, ↓reduceIte, ck_T, lt_T, lt_F, le_T, le_F, eq_T, eq_F, and_true, true_and, and_false, false_and, or_true, true_or, or_false, false_or, and_self, or_self, not_true_eq_false, not_false_eq_true, implies_true, forall_const, true_implies, false_implies, ri_k, rn_k, rr_k, wr_bi, bi_e0, bi_e1, bi_T, bi_F, Classical.not_not, itp, itn, ck_t]
      · by_cases h3 : w = 2
        · simp (disch := first | omega | (simp (disch := decide) only [um_k]; omega) | exact cat_i | exact cat_u | exact cat_r | assumption | exact rfl) only [b_271_0, hp, hw, hv, hr _ _, um_k, wr_of, ↓reduceIte, ck_T, lt_T, lt_F, le_T, le_F, eq_T, eq_F, and_true, true_and, and_false, false_and, or_true, true_or, or_false, false_or, and_self, or_self, not_true_eq_false, not_false_eq_true, implies_true, forall_const, true_implies, false_implies, ri_k, rn_k, rr_k, wr_bi, bi_e0, bi_e1, bi_T, bi_F, Classical.not_not, itp, itn, ck_t]
        · simp (disch := first | omega | (simp (disch := decide) only [um_k]; omega) | exact cat_i | exact cat_u | exact cat_r | assumption | exact rfl) only [b_271_0, hp, hw, hv, hr _ _, um_k, wr_of, ↓reduceIte, ck_T, lt_T, lt_F, le_T, le_F, eq_T, eq_F, and_true, true_and, and_false, false_and, or_true, true_or, or_false, false_or, and_self, or_self, not_true_eq_false, not_false_eq_true, implies_true, forall_const, true_implies, false_implies, ri_k, rn_k, rr_k, wr_bi, bi_e0, bi_e1, bi_T, bi_F, Classical.not_not, itp, itn, ck_t]
      · skip
        refine ⟨?rng, ⟨?num, ?gnd, ?ppl, ?hrd, ?sto, ?dee, ?tak, ?pos, ?sig, ?por, ?ver⟩, ?kept, ?law, ?ref, ?bes, ?tape, ?rows, ?host⟩
        case rng => repeat' (first | exact hr | exact wr_of (by omega) (by omega) | exact hr _ _ | assumption | exact wr_bi | apply Rng.um | apply Rng.uz)
        case num => exact cNum_cg (by simp (disch := first | omega | (simp (disch := decide) only [um_k]; omega) | exact cat_i | exact cat_u | exact cat_r | assumption | exact rfl) only [um_r, um_k, um_i, um_e, uz_r, uz_k, uz_i, uz_in]) (by simp (disch := first | omega | (simp (disch := decide) only [um_k]; omega) | exact cat_i | exact cat_u | exact cat_r | assumption | exact rfl) only [um_r, um_k, um_i, um_e, uz_r, uz_k, uz_i, uz_in]) (by simp (disch := first | omega | (simp (disch := decide) only [um_k]; omega) | exact cat_i | exact cat_u | exact cat_r | assumption | exact rfl) only [um_r, um_k, um_i, um_e, uz_r, uz_k, uz_i, uz_in]) (by simp (disch := first | omega | (simp (disch := decide) only [um_k]; omega) | exact cat_i | exact cat_u | exact cat_r | assumption | exact rfl) only [um_r, um_k, um_i, um_e, uz_r, uz_k, uz_i, uz_in]) (by simp (disch := first | omega | (simp (disch := decide) only [um_k]; omega) | exact cat_i | exact cat_u | exact cat_r | assumption | exact rfl) only [um_r, um_k, um_i, um_e, uz_r, uz_k, uz_i, uz_in]) (by simp (disch := first | omega | (simp (disch := decide) only [um_k]; omega) | exact cat_i | exact cat_u | exact cat_r | assumption | exact rfl) only [um_r, um_k, um_i, um_e, uz_r, uz_k, uz_i, uz_in]) (by simp (disch := first | omega | (simp (disch := decide) only [um_k]; omega) | exact cat_i | exact cat_u | exact cat_r | assumption | exact rfl) only [um_r, um_k, um_i, um_e, uz_r, uz_k, uz_i, uz_in]) (by simp (disch := first | omega | (simp (disch := decide) only [um_k]; omega) | exact cat_i | exact cat_u | exact cat_r | assumption | exact rfl) only [um_r, um_k, um_i, um_e, uz_r, uz_k, uz_i, uz_in]) (fun k _ _ => by simp (disch := first | omega | (simp (disch := decide) only [um_k]; omega) | exact cat_i | exact cat_u | exact cat_r | assumption | exact rfl) only [um_r, um_k, um_i, um_e, uz_r, uz_k, uz_i, uz_in]) iN
        case gnd => exact cGnd_cg (by simp (disch := first | omega | (simp (disch := decide) only [um_k]; omega) | exact cat_i | exact cat_u | exact cat_r | assumption | exact rfl) only [um_r, um_k, um_i, um_e, uz_r, uz_k, uz_i, uz_in]) (fun k _ _ => by simp (disch := first | omega | (simp (disch := decide) only [um_k]; omega) | exact cat_i | exact cat_u | exact cat_r | assumption | exact rfl) only [um_r, um_k, um_i, um_e, uz_r, uz_k, uz_i, uz_in]) iG
        case ppl => exact cPpl_cg (by simp (disch := first | omega | (simp (disch := decide) only [um_k]; omega) | exact cat_i | exact cat_u | exact cat_r | assumption | exact rfl) only [um_r, um_k, um_i, um_e, uz_r, uz_k, uz_i, uz_in]) (by simp (disch := first | omega | (simp (disch := decide) only [um_k]; omega) | exact cat_i | exact cat_u | exact cat_r | assumption | exact rfl) only [um_r, um_k, um_i, um_e, uz_r, uz_k, uz_i, uz_in]) (by omega) (fun k _ _ => by simp (disch := first | omega | (simp (disch := decide) only [um_k]; omega) | exact cat_i | exact cat_u | exact cat_r | assumption | exact rfl) only [um_r, um_k, um_i, um_e, uz_r, uz_k, uz_i, uz_in]) iP
        case hrd => exact cHrd_cg (by simp (disch := first | omega | (simp (disch := decide) only [um_k]; omega) | exact cat_i | exact cat_u | exact cat_r | assumption | exact rfl) only [um_r, um_k, um_i, um_e, uz_r, uz_k, uz_i, uz_in]) (Int.le_of_eq (by simp (disch := first | omega | (simp (disch := decide) only [um_k]; omega) | exact cat_i | exact cat_u | exact cat_r | assumption | exact rfl) only [um_r, um_k, um_i, um_e, uz_r, uz_k, uz_i, uz_in])) (by simp (disch := first | omega | (simp (disch := decide) only [um_k]; omega) | exact cat_i | exact cat_u | exact cat_r | assumption | exact rfl) only [um_r, um_k, um_i, um_e, uz_r, uz_k, uz_i, uz_in]) (by omega) (by simp (disch := first | omega | (simp (disch := decide) only [um_k]; omega) | exact cat_i | exact cat_u | exact cat_r | assumption | exact rfl) only [um_r, um_k, um_i, um_e, uz_r, uz_k, uz_i, uz_in]) (fun k _ _ => by simp (disch := first | omega | (simp (disch := decide) only [um_k]; omega) | exact cat_i | exact cat_u | exact cat_r | assumption | exact rfl) only [um_r, um_k, um_i, um_e, uz_r, uz_k, uz_i, uz_in]) iH
        case sto => exact cSto_cg (by simp (disch := first | omega | (simp (disch := decide) only [um_k]; omega) | exact cat_i | exact cat_u | exact cat_r | assumption | exact rfl) only [um_r, um_k, um_i, um_e, uz_r, uz_k, uz_i, uz_in]) (by simp (disch := first | omega | (simp (disch := decide) only [um_k]; omega) | exact cat_i | exact cat_u | exact cat_r | assumption | exact rfl) only [um_r, um_k, um_i, um_e, uz_r, uz_k, uz_i, uz_in]) (by omega) (fun k _ _ => by simp (disch := first | omega | (simp (disch := decide) only [um_k]; omega) | exact cat_i | exact cat_u | exact cat_r | assumption | exact rfl) only [um_r, um_k, um_i, um_e, uz_r, uz_k, uz_i, uz_in]) iS
        case dee => exact cDee_cg (by simp (disch := first | omega | (simp (disch := decide) only [um_k]; omega) | exact cat_i | exact cat_u | exact cat_r | assumption | exact rfl) only [um_r, um_k, um_i, um_e, uz_r, uz_k, uz_i, uz_in]) (Int.le_of_eq (by simp (disch := first | omega | (simp (disch := decide) only [um_k]; omega) | exact cat_i | exact cat_u | exact cat_r | assumption | exact rfl) only [um_r, um_k, um_i, um_e, uz_r, uz_k, uz_i, uz_in])) (Int.le_of_eq (by simp (disch := first | omega | (simp (disch := decide) only [um_k]; omega) | exact cat_i | exact cat_u | exact cat_r | assumption | exact rfl) only [um_r, um_k, um_i, um_e, uz_r, uz_k, uz_i, uz_in])) (by simp (disch := first | omega | (simp (disch := decide) only [um_k]; omega) | exact cat_i | exact cat_u | exact cat_r | assumption | exact rfl) only [um_r, um_k, um_i, um_e, uz_r, uz_k, uz_i, uz_in]) (by omega) (fun k _ _ => by simp (disch := first | omega | (simp (disch := decide) only [um_k]; omega) | exact cat_i | exact cat_u | exact cat_r | assumption | exact rfl) only [um_r, um_k, um_i, um_e, uz_r, uz_k, uz_i, uz_in]) iD
        case tak => exact cTak_cg (by simp (disch := first | omega | (simp (disch := decide) only [um_k]; omega) | exact cat_i | exact cat_u | exact cat_r | assumption | exact rfl) only [um_r, um_k, um_i, um_e, uz_r, uz_k, uz_i, uz_in]) (Int.le_of_eq (by simp (disch := first | omega | (simp (disch := decide) only [um_k]; omega) | exact cat_i | exact cat_u | exact cat_r | assumption | exact rfl) only [um_r, um_k, um_i, um_e, uz_r, uz_k, uz_i, uz_in])) (Int.le_of_eq (by simp (disch := first | omega | (simp (disch := decide) only [um_k]; omega) | exact cat_i | exact cat_u | exact cat_r | assumption | exact rfl) only [um_r, um_k, um_i, um_e, uz_r, uz_k, uz_i, uz_in])) (by simp (disch := first | omega | (simp (disch := decide) only [um_k]; omega) | exact cat_i | exact cat_u | exact cat_r | assumption | exact rfl) only [um_r, um_k, um_i, um_e, uz_r, uz_k, uz_i, uz_in]) (by omega) (fun k _ _ => by simp (disch := first | omega | (simp (disch := decide) only [um_k]; omega) | exact cat_i | exact cat_u | exact cat_r | assumption | exact rfl) only [um_r, um_k, um_i, um_e, uz_r, uz_k, uz_i, uz_in]) iT
        case pos => exact cPos_cg (by simp (disch := first | omega | (simp (disch := decide) only [um_k]; omega) | exact cat_i | exact cat_u | exact cat_r | assumption | exact rfl) only [um_r, um_k, um_i, um_e, uz_r, uz_k, uz_i, uz_in]) (by simp (disch := first | omega | (simp (disch := decide) only [um_k]; omega) | exact cat_i | exact cat_u | exact cat_r | assumption | exact rfl) only [um_r, um_k, um_i, um_e, uz_r, uz_k, uz_i, uz_in]) (by omega) (fun k _ _ => by simp (disch := first | omega | (simp (disch := decide) only [um_k]; omega) | exact cat_i | exact cat_u | exact cat_r | assumption | exact rfl) only [um_r, um_k, um_i, um_e, uz_r, uz_k, uz_i, uz_in]) iO
        case sig => exact cSig_cg (by simp (disch := first | omega | (simp (disch := decide) only [um_k]; omega) | exact cat_i | exact cat_u | exact cat_r | assumption | exact rfl) only [um_r, um_k, um_i, um_e, uz_r, uz_k, uz_i, uz_in]) (by simp (disch := first | omega | (simp (disch := decide) only [um_k]; omega) | exact cat_i | exact cat_u | exact cat_r | assumption | exact rfl) only [um_r, um_k, um_i, um_e, uz_r, uz_k, uz_i, uz_in]) (by omega) (fun k _ _ => by simp (disch := first | omega | (simp (disch := decide) only [um_k]; omega) | exact cat_i | exact cat_u | exact cat_r | assumption | exact rfl) only [um_r, um_k, um_i, um_e, uz_r, uz_k, uz_i, uz_in]) iU
        case por =>
          intro x g1 g2
          have q3 := iR x g1 g2
          by_cases hx : x = p
          · rw [hx]
            refine ⟨fun f g3 g4 => ?_, ?_⟩
            · by_cases f0 : f = w
              · simp (disch := first | omega | (simp (disch := decide) only [um_k]; omega) | exact cat_i | exact cat_u | exact cat_r | assumption | exact rfl) only [um_r, um_k, um_i, um_e, uz_r, uz_k, uz_i, uz_in]
              · simp (disch := first | omega | (simp (disch := decide) only [um_k]; omega) | exact cat_i | exact cat_u | exact cat_r | assumption | exact rfl) only [um_r, um_k, um_i, um_e, uz_r, uz_k, uz_i, uz_in]
                exact (iR p h1.1 h1.2.1).1 f g3 g4
            · have : w = 0 ∨ w = 1 ∨ w = 2 := by omega
              rcases this with h | h | h <;> simp (disch := first | omega | (simp (disch := decide) only [um_k]; omega) | exact cat_i | exact cat_u | exact cat_r | assumption | exact rfl) only [um_r, um_k, um_i, um_e, uz_r, uz_k, uz_i, uz_in] <;> omega
          · refine ⟨fun f g3 g4 => ?_, ?_⟩
            · simp (disch := first | omega | (simp (disch := decide) only [um_k]; omega) | exact cat_i | exact cat_u | exact cat_r | assumption | exact rfl) only [um_r, um_k, um_i, um_e, uz_r, uz_k, uz_i, uz_in]
              exact q3.1 f g3 g4
            · simp (disch := first | omega | (simp (disch := decide) only [um_k]; omega) | exact cat_i | exact cat_u | exact cat_r | assumption | exact rfl) only [um_r, um_k, um_i, um_e, uz_r, uz_k, uz_i, uz_in]
              exact q3.2
        case ver => exact cVer_cg (fun k _ _ => by simp (disch := first | omega | (simp (disch := decide) only [um_k]; omega) | exact cat_i | exact cat_u | exact cat_r | assumption | exact rfl) only [um_r, um_k, um_i, um_e, uz_r, uz_k, uz_i, uz_in]) (Int.le_of_eq (by simp (disch := first | omega | (simp (disch := decide) only [um_k]; omega) | exact cat_i | exact cat_u | exact cat_r | assumption | exact rfl) only [um_r, um_k, um_i, um_e, uz_r, uz_k, uz_i, uz_in])) (by simp (disch := first | omega | (simp (disch := decide) only [um_k]; omega) | exact cat_i | exact cat_u | exact cat_r | assumption | exact rfl) only [um_r, um_k, um_i, um_e, uz_r, uz_k, uz_i, uz_in]) (by omega) (fun k _ _ => by simp (disch := first | omega | (simp (disch := decide) only [um_k]; omega) | exact cat_i | exact cat_u | exact cat_r | assumption | exact rfl) only [um_r, um_k, um_i, um_e, uz_r, uz_k, uz_i, uz_in]) (fun k _ _ => by simp (disch := first | omega | (simp (disch := decide) only [um_k]; omega) | exact cat_i | exact cat_u | exact cat_r | assumption | exact rfl) only [um_r, um_k, um_i, um_e, uz_r, uz_k, uz_i, uz_in]) iV
        case kept => exact Kept_cg (by simp (disch := first | omega | (simp (disch := decide) only [um_k]; omega) | exact cat_i | exact cat_u | exact cat_r | assumption | exact rfl) only [um_r, um_k, um_i, um_e, uz_r, uz_k, uz_i, uz_in]) (by simp (disch := first | omega | (simp (disch := decide) only [um_k]; omega) | exact cat_i | exact cat_u | exact cat_r | assumption | exact rfl) only [um_r, um_k, um_i, um_e, uz_r, uz_k, uz_i, uz_in]) (fun k _ _ => by simp (disch := first | omega | (simp (disch := decide) only [um_k]; omega) | exact cat_i | exact cat_u | exact cat_r | assumption | exact rfl) only [um_r, um_k, um_i, um_e, uz_r, uz_k, uz_i, uz_in]) (by simp (disch := first | omega | (simp (disch := decide) only [um_k]; omega) | exact cat_i | exact cat_u | exact cat_r | assumption | exact rfl) only [um_r, um_k, um_i, um_e, uz_r, uz_k, uz_i, uz_in]) iK
        case law => exact LawOK_cg (by simp (disch := first | omega | (simp (disch := decide) only [um_k]; omega) | exact cat_i | exact cat_u | exact cat_r | assumption | exact rfl) only [um_r, um_k, um_i, um_e, uz_r, uz_k, uz_i, uz_in]) (by simp (disch := first | omega | (simp (disch := decide) only [um_k]; omega) | exact cat_i | exact cat_u | exact cat_r | assumption | exact rfl) only [um_r, um_k, um_i, um_e, uz_r, uz_k, uz_i, uz_in]) (by simp (disch := first | omega | (simp (disch := decide) only [um_k]; omega) | exact cat_i | exact cat_u | exact cat_r | assumption | exact rfl) only [um_r, um_k, um_i, um_e, uz_r, uz_k, uz_i, uz_in]) (fun k _ _ => by simp (disch := first | omega | (simp (disch := decide) only [um_k]; omega) | exact cat_i | exact cat_u | exact cat_r | assumption | exact rfl) only [um_r, um_k, um_i, um_e, uz_r, uz_k, uz_i, uz_in]) (by omega) (nz_cg (fun i hi => by simp (disch := first | omega | (simp (disch := decide) only [um_k]; omega) | exact cat_i | exact cat_u | exact cat_r | assumption | exact rfl) only [um_r, um_k, um_i, um_e, uz_r, uz_k, uz_i, uz_in]) (fun i _ _ => by simp (disch := first | omega | (simp (disch := decide) only [um_k]; omega) | exact cat_i | exact cat_u | exact cat_r | assumption | exact rfl) only [um_r, um_k, um_i, um_e, uz_r, uz_k, uz_i, uz_in])) iL
        case ref => exact RefOK_cg (by simp (disch := first | omega | (simp (disch := decide) only [um_k]; omega) | exact cat_i | exact cat_u | exact cat_r | assumption | exact rfl) only [um_r, um_k, um_i, um_e, uz_r, uz_k, uz_i, uz_in]) (by simp (disch := first | omega | (simp (disch := decide) only [um_k]; omega) | exact cat_i | exact cat_u | exact cat_r | assumption | exact rfl) only [um_r, um_k, um_i, um_e, uz_r, uz_k, uz_i, uz_in]) (by simp (disch := first | omega | (simp (disch := decide) only [um_k]; omega) | exact cat_i | exact cat_u | exact cat_r | assumption | exact rfl) only [um_r, um_k, um_i, um_e, uz_r, uz_k, uz_i, uz_in]) (by simp (disch := first | omega | (simp (disch := decide) only [um_k]; omega) | exact cat_i | exact cat_u | exact cat_r | assumption | exact rfl) only [um_r, um_k, um_i, um_e, uz_r, uz_k, uz_i, uz_in]) (nz_cg (fun i hi => by simp (disch := first | omega | (simp (disch := decide) only [um_k]; omega) | exact cat_i | exact cat_u | exact cat_r | assumption | exact rfl) only [um_r, um_k, um_i, um_e, uz_r, uz_k, uz_i, uz_in]) (fun i _ _ => by simp (disch := first | omega | (simp (disch := decide) only [um_k]; omega) | exact cat_i | exact cat_u | exact cat_r | assumption | exact rfl) only [um_r, um_k, um_i, um_e, uz_r, uz_k, uz_i, uz_in])) iF
        case bes => exact beside_cg (by simp (disch := first | omega | (simp (disch := decide) only [um_k]; omega) | exact cat_i | exact cat_u | exact cat_r | assumption | exact rfl) only [um_r, um_k, um_i, um_e, uz_r, uz_k, uz_i, uz_in]) iB
        case tape => exact Tape_cg (by simp (disch := first | omega | (simp (disch := decide) only [um_k]; omega) | exact cat_i | exact cat_u | exact cat_r | assumption | exact rfl) only [um_r, um_k, um_i, um_e, uz_r, uz_k, uz_i, uz_in]) (by simp (disch := first | omega | (simp (disch := decide) only [um_k]; omega) | exact cat_i | exact cat_u | exact cat_r | assumption | exact rfl) only [um_r, um_k, um_i, um_e, uz_r, uz_k, uz_i, uz_in]) (by simp (disch := first | omega | (simp (disch := decide) only [um_k]; omega) | exact cat_i | exact cat_u | exact cat_r | assumption | exact rfl) only [um_r, um_k, um_i, um_e, uz_r, uz_k, uz_i, uz_in]) (by simp (disch := first | omega | (simp (disch := decide) only [um_k]; omega) | exact cat_i | exact cat_u | exact cat_r | assumption | exact rfl) only [um_r, um_k, um_i, um_e, uz_r, uz_k, uz_i, uz_in]) iA
        case rows => exact Rows_cg (by simp (disch := first | omega | (simp (disch := decide) only [um_k]; omega) | exact cat_i | exact cat_u | exact cat_r | assumption | exact rfl) only [um_r, um_k, um_i, um_e, uz_r, uz_k, uz_i, uz_in]) (by simp (disch := first | omega | (simp (disch := decide) only [um_k]; omega) | exact cat_i | exact cat_u | exact cat_r | assumption | exact rfl) only [um_r, um_k, um_i, um_e, uz_r, uz_k, uz_i, uz_in]) (by simp (disch := first | omega | (simp (disch := decide) only [um_k]; omega) | exact cat_i | exact cat_u | exact cat_r | assumption | exact rfl) only [um_r, um_k, um_i, um_e, uz_r, uz_k, uz_i, uz_in]) (by simp (disch := first | omega | (simp (disch := decide) only [um_k]; omega) | exact cat_i | exact cat_u | exact cat_r | assumption | exact rfl) only [um_r, um_k, um_i, um_e, uz_r, uz_k, uz_i, uz_in]) (by simp (disch := first | omega | (simp (disch := decide) only [um_k]; omega) | exact cat_i | exact cat_u | exact cat_r | assumption | exact rfl) only [um_r, um_k, um_i, um_e, uz_r, uz_k, uz_i, uz_in]) (by simp (disch := first | omega | (simp (disch := decide) only [um_k]; omega) | exact cat_i | exact cat_u | exact cat_r | assumption | exact rfl) only [um_r, um_k, um_i, um_e, uz_r, uz_k, uz_i, uz_in]) (by simp (disch := first | omega | (simp (disch := decide) only [um_k]; omega) | exact cat_i | exact cat_u | exact cat_r | assumption | exact rfl) only [um_r, um_k, um_i, um_e, uz_r, uz_k, uz_i, uz_in]) (by simp (disch := first | omega | (simp (disch := decide) only [um_k]; omega) | exact cat_i | exact cat_u | exact cat_r | assumption | exact rfl) only [um_r, um_k, um_i, um_e, uz_r, uz_k, uz_i, uz_in]) (by simp (disch := first | omega | (simp (disch := decide) only [um_k]; omega) | exact cat_i | exact cat_u | exact cat_r | assumption | exact rfl) only [um_r, um_k, um_i, um_e, uz_r, uz_k, uz_i, uz_in]) iW
        case host => exact Host_cg (fun k _ _ => by simp (disch := first | omega | (simp (disch := decide) only [um_k]; omega) | exact cat_i | exact cat_u | exact cat_r | assumption | exact rfl) only [um_r, um_k, um_i, um_e, uz_r, uz_k, uz_i, uz_in]) (by simp (disch := first | omega | (simp (disch := decide) only [um_k]; omega) | exact cat_i | exact cat_u | exact cat_r | assumption | exact rfl) only [um_r, um_k, um_i, um_e, uz_r, uz_k, uz_i, uz_in]) (by simp (disch := first | omega | (simp (disch := decide) only [um_k]; omega) | exact cat_i | exact cat_u | exact cat_r | assumption | exact rfl) only [um_r, um_k, um_i, um_e, uz_r, uz_k, uz_i, uz_in]) (fun k _ _ => by simp (disch := first | omega | (simp (disch := decide) only [um_k]; omega) | exact cat_i | exact cat_u | exact cat_r | assumption | exact rfl) only [um_r, um_k, um_i, um_e, uz_r, uz_k, uz_i, uz_in]) iX
    · refine Both.same hI (-1) ?_ ?_
      · by_cases h3 : w = 2
        · simp (disch := first | omega | (simp (disch := decide) only [um_k]; omega) | exact cat_i | exact cat_u | exact cat_r | assumption | exact rfl) only [b_163_0, hp, hw, hv, hr _ _, wr_of, ↓reduceIte, ck_T, lt_T, lt_F, le_T, le_F, eq_T, eq_F, and_true, true_and, and_false, false_and, or_true, true_or, or_false, false_or, and_self, or_self, not_true_eq_false, not_false_eq_true, implies_true, forall_const, true_implies, false_implies, ri_k, rn_k, rr_k, wr_bi, bi_e0, bi_e1, bi_T, bi_F, Classical.not_not, itp, itn, ck_t]
        · simp (disch := first | omega | (simp (disch := decide) only [um_k]; omega) | exact cat_i | exact cat_u | exact cat_r | assumption | exact rfl) only [b_163_0, hp, hw, hv, hr _ _, wr_of, ↓reduceIte, ck_T, lt_T, lt_F, le_T, le_F, eq_T, eq_F, and_true, true_and, and_false, false_and, or_true, true_or, or_false, false_or, and_self, or_self, not_true_eq_false, not_false_eq_true, implies_true, forall_const, true_implies, false_implies, ri_k, rn_k, rr_k, wr_bi, bi_e0, bi_e1, bi_T, bi_F, Classical.not_not, itp, itn, ck_t]
      · by_cases h3 : w = 2
        · simp (disch := first | omega | (simp (disch := decide) only [um_k]; omega) | exact cat_i | exact cat_u | exact cat_r | assumption | exact rfl) only [b_271_0, hp, hw, hv, hr _ _, wr_of, ↓reduceIte, ck_T, lt_T, lt_F, le_T, le_F, eq_T, eq_F, and_true, true_and, and_false, false_and, or_true, true_or, or_false, false_or, and_self, or_self, not_true_eq_false, not_false_eq_true, implies_true, forall_const, true_implies, false_implies, ri_k, rn_k, rr_k, wr_bi, bi_e0, bi_e1, bi_T, bi_F, Classical.not_not, itp, itn, ck_t]
        · simp (disch := first | omega | (simp (disch := decide) only [um_k]; omega) | exact cat_i | exact cat_u | exact cat_r | assumption | exact rfl) only [b_271_0, hp, hw, hv, hr _ _, wr_of, ↓reduceIte, ck_T, lt_T, lt_F, le_T, le_F, eq_T, eq_F, and_true, true_and, and_false, false_and, or_true, true_or, or_false, false_or, and_self, or_self, not_true_eq_false, not_false_eq_true, implies_true, forall_const, true_implies, false_implies, ri_k, rn_k, rr_k, wr_bi, bi_e0, bi_e1, bi_T, bi_F, Classical.not_not, itp, itn, ck_t]
  · refine Both.same hI (-1) ?_ ?_
    · simp (disch := first | omega | (simp (disch := decide) only [um_k]; omega) | exact cat_i | exact cat_u | exact cat_r | assumption | exact rfl) only [b_163_0, hp, hw, hv, hr _ _, wr_of, ↓reduceIte, ck_T, lt_T, lt_F, le_T, le_F, eq_T, eq_F, and_true, true_and, and_false, false_and, or_true, true_or, or_false, false_or, and_self, or_self, not_true_eq_false, not_false_eq_true, implies_true, forall_const, true_implies, false_implies, ri_k, rn_k, rr_k, wr_bi, bi_e0, bi_e1, bi_T, bi_F, Classical.not_not, itp, itn, ck_t]
    · simp (disch := first | omega | (simp (disch := decide) only [um_k]; omega) | exact cat_i | exact cat_u | exact cat_r | assumption | exact rfl) only [b_271_0, hp, hw, hv, hr _ _, wr_of, ↓reduceIte, ck_T, lt_T, lt_F, le_T, le_F, eq_T, eq_F, and_true, true_and, and_false, false_and, or_true, true_or, or_false, false_or, and_self, or_self, not_true_eq_false, not_false_eq_true, implies_true, forall_const, true_implies, false_implies, ri_k, rn_k, rr_k, wr_bi, bi_e0, bi_e1, bi_T, bi_F, Classical.not_not, itp, itn, ck_t]
theorem W_comeDay {p h : Int} (iN : cNum m (m 247)) (iR : cPor m (m 247)) (h0 : 0 ≤ p) (h1 : p < 5) (h2 : 0 ≤ h) (h3 : h ≤ 9999) : Z e (d + 1) 133 0 [.ref 1, .int (iI (p)), .int (iI (h))] [] m = ri (h / 24 + m 247 (1282 + 3 * p + 0)) m := by
  have bN := iN
  unfold cNum at bN
  have q := (iR p h0 h1).1 0 (by decide) (by decide)
  simp (disch := first | omega | (simp (disch := decide) only [um_k]; omega) | exact cat_i | exact cat_u | exact cat_r | assumption | exact rfl) only [b_133_0, b_133_13, get_10, q, jdiv_n, wr_of, ↓reduceIte, ck_T, lt_T, lt_F, le_T, le_F, eq_T, eq_F, and_true, true_and, and_false, false_and, or_true, true_or, or_false, false_or, and_self, or_self, not_true_eq_false, not_false_eq_true, implies_true, forall_const, true_implies, false_implies, ri_k, rn_k, rr_k, wr_bi, bi_e0, bi_e1, bi_T, bi_F, Classical.not_not, itp, itn, ck_t]
noncomputable def tid (N : Int → Int) (p c : Int) : Int := cif (N (1282 + 3 * p + 1) ≤ N (1282 + 3 * p + 2)) (-3) ((N (1282 + 3 * p + 2) - c) % N (1282 + 3 * p + 1))
theorem W_tides {p c : Int} (hr : Rng m) (iN : cNum m (m 247)) (iR : cPor m (m 247)) (h0 : 0 ≤ p) (h1 : p < 5) (h2 : 0 ≤ c) (h3 : c ≤ 99999) : Z e (d + 1) 134 0 [.ref 1, .int (iI (p)), .int (iI (c)), .retAddr 0, .retAddr 0] [] m = ri (tid (m 247) p c) m := by
  have bN := iN
  unfold cNum at bN
  have q1 := (iR p h0 h1).1 1 (by decide) (by decide)
  have q2 := (iR p h0 h1).1 2 (by decide) (by decide)
  have q3 := (iR p h0 h1).2
  unfold tid
  by_cases h4 : m 247 (1282 + 3 * p + 1) ≤ m 247 (1282 + 3 * p + 2)
  · rw [cif_t h4]
    simp (disch := first | omega | (simp (disch := decide) only [um_k]; omega) | exact cat_i | exact cat_u | exact cat_r | assumption | exact rfl) only [b_134_0, b_134_9, b_134_19, b_134_43, get_10, q1, q2, hr _ _, wr_of, ↓reduceIte, ck_T, lt_T, lt_F, le_T, le_F, eq_T, eq_F, and_true, true_and, and_false, false_and, or_true, true_or, or_false, false_or, and_self, or_self, not_true_eq_false, not_false_eq_true, implies_true, forall_const, true_implies, false_implies, ri_k, rn_k, rr_k, wr_bi, bi_e0, bi_e1, bi_T, bi_F, Classical.not_not, itp, itn, ck_t]
  · rw [cif_f h4]
    simp (disch := first | omega | (simp (disch := decide) only [um_k]; omega) | exact cat_i | exact cat_u | exact cat_r | assumption | exact rfl) only [b_134_0, b_134_9, b_134_19, b_134_43, get_10, q1, q2, hr _ _, floorMod_ok, wr_of, ↓reduceIte, ck_T, lt_T, lt_F, le_T, le_F, eq_T, eq_F, and_true, true_and, and_false, false_and, or_true, true_or, or_false, false_or, and_self, or_self, not_true_eq_false, not_false_eq_true, implies_true, forall_const, true_implies, false_implies, ri_k, rn_k, rr_k, wr_bi, bi_e0, bi_e1, bi_T, bi_F, Classical.not_not, itp, itn, ck_t]
theorem emod_step {a c n : Int} (h0 : 0 < n) (h1 : ¬ (a - c) % n = 0) : (a - (c + 1)) % n = (a - c) % n - 1 := by
  have h2 := Int.emod_nonneg (a - c) (show n ≠ 0 by omega)
  have h3 := Int.emod_lt_of_pos (a - c) h0
  have h4 := Int.mul_ediv_add_emod (a - c) n
  have h5 : a - (c + 1) = ((a - c) % n - 1) + n * ((a - c) / n) := by omega
  rw [h5, Int.add_mul_emod_self_left]
  exact Int.emod_eq_of_lt (by omega) (by omega)
theorem M_ship {p c : Int} (hr : Rng m) (iR : cPor m (m 247)) (h0 : 0 ≤ p) (h1 : p < 5) (h2 : 0 ≤ c) (h3 : c ≤ 99999) : Z e d 268 0 [.ref 246, .int (iI (p)), .int (iI (c)), .retAddr 0, .retAddr 0, .retAddr 0] [] m = ri (cif (tid (m 247) p c = -3) (-3) (c + tid (m 247) p c)) m := by
  have q3 := (iR p h0 h1).2
  unfold tid
  by_cases h4 : m 247 (1282 + 3 * p + 1) ≤ m 247 (1282 + 3 * p + 2)
  · rw [cif_t h4, cif_t rfl]
    simp (disch := first | omega | (simp (disch := decide) only [um_k]; omega) | exact cat_i | exact cat_u | exact cat_r | assumption | exact rfl) only [b_268_0, hr _ _, wr_of, ↓reduceIte, ck_T, lt_T, lt_F, le_T, le_F, eq_T, eq_F, and_true, true_and, and_false, false_and, or_true, true_or, or_false, false_or, and_self, or_self, not_true_eq_false, not_false_eq_true, implies_true, forall_const, true_implies, false_implies, ri_k, rn_k, rr_k, wr_bi, bi_e0, bi_e1, bi_T, bi_F, Classical.not_not, itp, itn, ck_t]
  · have h5 := Int.emod_nonneg (m 247 (1282 + 3 * p + 2) - c) (show m 247 (1282 + 3 * p + 1) ≠ 0 by omega)
    rw [cif_f h4, cif_f (by omega)]
    simp (disch := first | omega | (simp (disch := decide) only [um_k]; omega) | exact cat_i | exact cat_u | exact cat_r | assumption | exact rfl) only [b_268_0, hr _ _, wr_of, ↓reduceIte, ck_T, lt_T, lt_F, le_T, le_F, eq_T, eq_F, and_true, true_and, and_false, false_and, or_true, true_or, or_false, false_or, and_self, or_self, not_true_eq_false, not_false_eq_true, implies_true, forall_const, true_implies, false_implies, ri_k, rn_k, rr_k, wr_bi, bi_e0, bi_e1, bi_T, bi_F, Classical.not_not, itp, itn, ck_t]
    have loop : ∀ (k : Nat) (x : Int), 0 ≤ x → x + k ≤ 200000 → (m 247 (1282 + 3 * p + 2) - x) % m 247 (1282 + 3 * p + 1) = k → Z e d 268 43 [.ref 246, .int (iI p), .int (iI c), .int (iI (m 247 (1282 + 3 * p + 1))), .int (iI (m 247 (1282 + 3 * p + 2))), .int (iI (x))] [] m = ri (x + k) m := by
      intro k
      induction k with
      | zero =>
        intro x g1 g2 g3
        have g4 : x % m 247 (1282 + 3 * p + 1) = m 247 (1282 + 3 * p + 2) := by
          have := Int.emod_eq_emod_iff_emod_sub_eq_zero.mpr g3
          rw [← this]
          exact Int.emod_eq_of_lt (by omega) (by omega)
        refine (b_268_43).trans ?_
        simp (disch := first | omega | (simp (disch := decide) only [um_k]; omega) | exact cat_i | exact cat_u | exact cat_r | assumption | exact rfl) only [hr _ _, jrem_n, g4, wr_of, ↓reduceIte, ck_T, lt_T, lt_F, le_T, le_F, eq_T, eq_F, and_true, true_and, and_false, false_and, or_true, true_or, or_false, false_or, and_self, or_self, not_true_eq_false, not_false_eq_true, implies_true, forall_const, true_implies, false_implies, ri_k, rn_k, rr_k, wr_bi, bi_e0, bi_e1, bi_T, bi_F, Classical.not_not, itp, itn, ck_t]
        simp
      | succ k ih =>
        intro x g1 g2 g3
        have g4 : ¬ x % m 247 (1282 + 3 * p + 1) = m 247 (1282 + 3 * p + 2) := by
          intro q
          have h6 : m 247 (1282 + 3 * p + 2) % m 247 (1282 + 3 * p + 1) = x % m 247 (1282 + 3 * p + 1) := by
            rw [q]
            exact Int.emod_eq_of_lt (by omega) (by omega)
          have := Int.emod_eq_emod_iff_emod_sub_eq_zero.mp h6
          omega
        have g5 := Int.emod_lt_of_pos x (show 0 < m 247 (1282 + 3 * p + 1) by omega)
        have g6 := Int.emod_nonneg x (show m 247 (1282 + 3 * p + 1) ≠ 0 by omega)
        have h7 := emod_step (a := m 247 (1282 + 3 * p + 2)) (c := x) (n := m 247 (1282 + 3 * p + 1)) (by omega) (by omega)
        refine (b_268_43).trans ?_
        simp (disch := first | omega | (simp (disch := decide) only [um_k]; omega) | exact cat_i | exact cat_u | exact cat_r | assumption | exact rfl) only [hr _ _, jrem_n, g4, ih (x + 1) (by omega) (by omega) (by omega), wr_of, ↓reduceIte, ck_T, lt_T, lt_F, le_T, le_F, eq_T, eq_F, and_true, true_and, and_false, false_and, or_true, true_or, or_false, false_or, and_self, or_self, not_true_eq_false, not_false_eq_true, implies_true, forall_const, true_implies, false_implies, ri_k, rn_k, rr_k, wr_bi, bi_e0, bi_e1, bi_T, bi_F, Classical.not_not, itp, itn, ck_t]
        congr 1
        omega
    have h6 := Int.emod_lt_of_pos (m 247 (1282 + 3 * p + 2) - c) (show 0 < m 247 (1282 + 3 * p + 1) by omega)
    have h7 := loop ((m 247 (1282 + 3 * p + 2) - c) % m 247 (1282 + 3 * p + 1)).toNat c h2 (by omega) (by omega)
    rw [Int.toNat_of_nonneg h5] at h7
    exact h7
/-- a person becomes something now -/
theorem Inv_bec {p s : Int} (hI : Inv m) (h0 : 0 ≤ p) (h1 : p < m 247 1) (hs : 0 ≤ s ∧ s ≤ 6) (h3 : s = 3 → 0 ≤ m 247 (110 + 9 * p + 7)) : Inv (um (um (um (um m 5 (p * 18 + 2) s) 5 (p * 18 + 3) (m 247 0)) 247 (110 + 9 * p + 2) s) 247 (110 + 9 * p + 3) (m 247 0)) := by
  obtain ⟨hr, ⟨iN, iG, iP, iH, iS, iD, iT, iO, iU, iR, iV⟩, iK, iL, iF, iB, iA, iW, iX⟩ := id hI
  have bN := iN
  unfold cNum at bN
  have q := iP p h0 h1
  unfold pRow at q
  have ws : wr s = s := wr_of (by omega) (by omega)
  refine Inv_ppl hI ((((hr.um ws).um (hr _ _)).um ws).um (hr _ _)) (fun k g1 g2 => by simp (disch := first | omega | (simp (disch := decide) only [um_k]; omega) | exact cat_i | exact cat_u | exact cat_r | assumption | exact rfl) only [um_r, um_k, um_i, um_e, uz_r, uz_k, uz_i, uz_in]) (fun i g1 => by simp (disch := first | omega | (simp (disch := decide) only [um_k]; omega) | exact cat_i | exact cat_u | exact cat_r | assumption | exact rfl) only [um_r, um_k, um_i, um_e, uz_r, uz_k, uz_i, uz_in]) (fun p' b g1 g2 g3 => by simp (disch := first | omega | (simp (disch := decide) only [um_k]; omega) | exact cat_i | exact cat_u | exact cat_r | assumption | exact rfl) only [um_r, um_k, um_i, um_e, uz_r, uz_k, uz_i, uz_in]) (fun x g1 g2 => ?_)
  by_cases hx : x = p
  · rw [hx]
    unfold pRow
    refine ⟨fun f g3 g4 => ?_, ?_⟩
    · by_cases f0 : f = 2
      · simp (disch := first | omega | (simp (disch := decide) only [um_k]; omega) | exact cat_i | exact cat_u | exact cat_r | assumption | exact rfl) only [um_r, um_k, um_i, um_e, uz_r, uz_k, uz_i, uz_in]
      · by_cases f4 : f = 3
        · simp (disch := first | omega | (simp (disch := decide) only [um_k]; omega) | exact cat_i | exact cat_u | exact cat_r | assumption | exact rfl) only [um_r, um_k, um_i, um_e, uz_r, uz_k, uz_i, uz_in]
        · simp (disch := first | omega | (simp (disch := decide) only [um_k]; omega) | exact cat_i | exact cat_u | exact cat_r | assumption | exact rfl) only [um_r, um_k, um_i, um_e, uz_r, uz_k, uz_i, uz_in]
          exact q.1 f g3 g4
    · simp (disch := first | omega | (simp (disch := decide) only [um_k]; omega) | exact cat_i | exact cat_u | exact cat_r | assumption | exact rfl) only [um_r, um_k, um_i, um_e, uz_r, uz_k, uz_i, uz_in]
      omega
  · exact pRow_cg (fun f _ _ => by simp (disch := first | omega | (simp (disch := decide) only [um_k]; omega) | exact cat_i | exact cat_u | exact cat_r | assumption | exact rfl) only [um_r, um_k, um_i, um_e, uz_r, uz_k, uz_i, uz_in]) (fun f _ _ => by simp (disch := first | omega | (simp (disch := decide) only [um_k]; omega) | exact cat_i | exact cat_u | exact cat_r | assumption | exact rfl) only [um_r, um_k, um_i, um_e, uz_r, uz_k, uz_i, uz_in]) (iP x g1 g2)
theorem call_leave {p w : Int} (hI : Inv m) (hp : wr p = p) (hw : wr w = w) : Both (Z e (d + 2) 161 0 [.ref 0, .int (iI (p)), .int (iI (w)), .retAddr 0, .retAddr 0] []) (Z e (d + 2) 269 0 [.ref 246, .int (iI (p)), .int (iI (w)), .retAddr 0, .retAddr 0] []) m := by
  obtain ⟨hr, ⟨iN, iG, iP, iH, iS, iD, iT, iO, iU, iR, iV⟩, iK, iL, iF, iB, iA, iW, iX⟩ := id hI
  have bN := iN
  unfold cNum at bN
  by_cases h1 : 0 ≤ p ∧ p < m 247 1 ∧ 0 ≤ w ∧ w < 5
  · have q := iP p h1.1 h1.2.1
    unfold pRow at q
    have q3 := (iR w h1.2.2.1 h1.2.2.2).2
    by_cases h2 : m 247 (110 + 9 * p + 2) = 2
    · have h5 := W_comeDay (e := e) (d := d) (m := m) iN iR h1.2.2.1 h1.2.2.2 (h := m 247 0) (by omega) (by omega)
      have h6 := W_tides (e := e) (d := d) (m := m) hr iN iR h1.2.2.1 h1.2.2.2 (c := m 247 0 / 24 + m 247 (1282 + 3 * w + 0)) (by omega) (by omega)
      have h7 := M_ship (e := e) (d := d + 1) (m := m) hr iR h1.2.2.1 h1.2.2.2 (c := m 247 0 / 24 + m 247 (1282 + 3 * w + 0)) (by omega) (by omega)
      have e0 : m 247 (1282 + 3 * w) = m 247 (1282 + 3 * w + 0) := by rw [Int.add_zero]
      have h8 : -3 ≤ tid (m 247) w (m 247 0 / 24 + m 247 (1282 + 3 * w + 0)) ∧ tid (m 247) w (m 247 0 / 24 + m 247 (1282 + 3 * w + 0)) ≤ 30 := by
        unfold tid
        by_cases g : m 247 (1282 + 3 * w + 1) ≤ m 247 (1282 + 3 * w + 2)
        · rw [cif_t g]; omega
        · rw [cif_f g]
          have g1 := Int.emod_nonneg (m 247 (1282 + 3 * w + 2) - (m 247 0 / 24 + m 247 (1282 + 3 * w + 0))) (show m 247 (1282 + 3 * w + 1) ≠ 0 by omega)
          have g2 := Int.emod_lt_of_pos (m 247 (1282 + 3 * w + 2) - (m 247 0 / 24 + m 247 (1282 + 3 * w + 0))) (show 0 < m 247 (1282 + 3 * w + 1) by omega)
          omega
      by_cases h9 : tid (m 247) w (m 247 0 / 24 + m 247 (1282 + 3 * w + 0)) = -3
      · refine Both.same hI (-3) ?_ ?_
        · simp (disch := first | omega | (simp (disch := decide) only [um_k]; omega) | exact cat_i | exact cat_u | exact cat_r | assumption | exact rfl) only [b_161_0, b_161_33, b_161_54, b_161_64, b_161_85, b_161_99, hp, hw, hr _ _, W_isIn hr iN iP h1.1 h1.2.1 (s := 2) rfl, bN.1.1, h5, h6, wr_of, ↓reduceIte, ck_T, lt_T, lt_F, le_T, le_F, eq_T, eq_F, and_true, true_and, and_false, false_and, or_true, true_or, or_false, false_or, and_self, or_self, not_true_eq_false, not_false_eq_true, implies_true, forall_const, true_implies, false_implies, ri_k, rn_k, rr_k, wr_bi, bi_e0, bi_e1, bi_T, bi_F, Classical.not_not, itp, itn, ck_t]
        · rw [cif_t h9] at h7
          simp (disch := first | omega | (simp (disch := decide) only [um_k]; omega) | exact cat_i | exact cat_u | exact cat_r | assumption | exact rfl) only [b_269_0, b_269_58, hp, hw, hr _ _, jdiv_n, e0, h7, wr_of, ↓reduceIte, ck_T, lt_T, lt_F, le_T, le_F, eq_T, eq_F, and_true, true_and, and_false, false_and, or_true, true_or, or_false, false_or, and_self, or_self, not_true_eq_false, not_false_eq_true, implies_true, forall_const, true_implies, false_implies, ri_k, rn_k, rr_k, wr_bi, bi_e0, bi_e1, bi_T, bi_F, Classical.not_not, itp, itn, ck_t]
      · rw [cif_f h9] at h7
        refine ⟨m 247 0 / 24 + m 247 (1282 + 3 * w + 0) + tid (m 247) w (m 247 0 / 24 + m 247 (1282 + 3 * w + 0)), um (um (um m 5 (p * 18 + 2) 3) 5 (p * 18 + 3) (m 247 0)) 5 (p * 18 + 7) w, um (um (um (um (um (um m 5 (p * 18 + 2) 3) 5 (p * 18 + 3) (m 247 0)) 5 (p * 18 + 7) w) 247 (110 + 9 * p + 7) w) 247 (110 + 9 * p + 2) 3) 247 (110 + 9 * p + 3) (m 247 0), ?_, ?_, ?_⟩
        · simp (disch := first | omega | (simp (disch := decide) only [um_k]; omega) | exact cat_i | exact cat_u | exact cat_r | assumption | exact rfl) only [b_161_0, b_161_33, b_161_54, b_161_64, b_161_85, b_161_99, hp, hw, hr _ _, W_isIn hr iN iP h1.1 h1.2.1 (s := 2) rfl, bN.1.1, h5, h6, W_become iN h1.1 h1.2.1, set_4, um_k, wr_of, ↓reduceIte, ck_T, lt_T, lt_F, le_T, le_F, eq_T, eq_F, and_true, true_and, and_false, false_and, or_true, true_or, or_false, false_or, and_self, or_self, not_true_eq_false, not_false_eq_true, implies_true, forall_const, true_implies, false_implies, ri_k, rn_k, rr_k, wr_bi, bi_e0, bi_e1, bi_T, bi_F, Classical.not_not, itp, itn, ck_t]
        · have h7' := M_ship (e := e) (d := d + 1) (m := um (um (um m 5 (p * 18 + 2) 3) 5 (p * 18 + 3) (m 247 0)) 5 (p * 18 + 7) w) (((hr.um rfl).um (hr _ _)).um hw) (cPor_cg (by simp (disch := first | omega | (simp (disch := decide) only [um_k]; omega) | exact cat_i | exact cat_u | exact cat_r | assumption | exact rfl) only [um_r, um_k, um_i, um_e, uz_r, uz_k, uz_i, uz_in]) (fun i _ _ => by simp (disch := first | omega | (simp (disch := decide) only [um_k]; omega) | exact cat_i | exact cat_u | exact cat_r | assumption | exact rfl) only [um_r, um_k, um_i, um_e, uz_r, uz_k, uz_i, uz_in]) iR) h1.2.2.1 h1.2.2.2 (c := m 247 0 / 24 + m 247 (1282 + 3 * w + 0)) (by omega) (by omega)
          simp (disch := first | omega | (simp (disch := decide) only [um_k]; omega) | exact cat_i | exact cat_u | exact cat_r | assumption | exact rfl) only [um_r, um_k, um_i, um_e, uz_r, uz_k, uz_i, uz_in] at h7'
          rw [cif_f h9] at h7'
          simp (disch := first | omega | (simp (disch := decide) only [um_k]; omega) | exact cat_i | exact cat_u | exact cat_r | assumption | exact rfl) only [b_269_0, b_269_58, hp, hw, hr _ _, um_k, um_i, jdiv_n, e0, h7', wr_of, ↓reduceIte, ck_T, lt_T, lt_F, le_T, le_F, eq_T, eq_F, and_true, true_and, and_false, false_and, or_true, true_or, or_false, false_or, and_self, or_self, not_true_eq_false, not_false_eq_true, implies_true, forall_const, true_implies, false_implies, ri_k, rn_k, rr_k, wr_bi, bi_e0, bi_e1, bi_T, bi_F, Classical.not_not, itp, itn, ck_t]
        · refine Inv_ppl hI ((((((hr.um rfl).um (hr _ _)).um hw).um hw).um rfl).um (hr _ _)) (fun k g1 g2 => by simp (disch := first | omega | (simp (disch := decide) only [um_k]; omega) | exact cat_i | exact cat_u | exact cat_r | assumption | exact rfl) only [um_r, um_k, um_i, um_e, uz_r, uz_k, uz_i, uz_in]) (fun i g1 => by simp (disch := first | omega | (simp (disch := decide) only [um_k]; omega) | exact cat_i | exact cat_u | exact cat_r | assumption | exact rfl) only [um_r, um_k, um_i, um_e, uz_r, uz_k, uz_i, uz_in]) (fun p' b g1 g2 g3 => by simp (disch := first | omega | (simp (disch := decide) only [um_k]; omega) | exact cat_i | exact cat_u | exact cat_r | assumption | exact rfl) only [um_r, um_k, um_i, um_e, uz_r, uz_k, uz_i, uz_in]) (fun x g1 g2 => ?_)
          by_cases hx : x = p
          · rw [hx]
            unfold pRow
            refine ⟨fun f g3 g4 => ?_, ?_⟩
            · by_cases f0 : f = 2
              · simp (disch := first | omega | (simp (disch := decide) only [um_k]; omega) | exact cat_i | exact cat_u | exact cat_r | assumption | exact rfl) only [um_r, um_k, um_i, um_e, uz_r, uz_k, uz_i, uz_in]
              · by_cases f4 : f = 3
                · simp (disch := first | omega | (simp (disch := decide) only [um_k]; omega) | exact cat_i | exact cat_u | exact cat_r | assumption | exact rfl) only [um_r, um_k, um_i, um_e, uz_r, uz_k, uz_i, uz_in]
                · by_cases f7 : f = 7
                  · simp (disch := first | omega | (simp (disch := decide) only [um_k]; omega) | exact cat_i | exact cat_u | exact cat_r | assumption | exact rfl) only [um_r, um_k, um_i, um_e, uz_r, uz_k, uz_i, uz_in]
                  · simp (disch := first | omega | (simp (disch := decide) only [um_k]; omega) | exact cat_i | exact cat_u | exact cat_r | assumption | exact rfl) only [um_r, um_k, um_i, um_e, uz_r, uz_k, uz_i, uz_in]
                    exact q.1 f g3 g4
            · simp (disch := first | omega | (simp (disch := decide) only [um_k]; omega) | exact cat_i | exact cat_u | exact cat_r | assumption | exact rfl) only [um_r, um_k, um_i, um_e, uz_r, uz_k, uz_i, uz_in]
              omega
          · exact pRow_cg (fun f _ _ => by simp (disch := first | omega | (simp (disch := decide) only [um_k]; omega) | exact cat_i | exact cat_u | exact cat_r | assumption | exact rfl) only [um_r, um_k, um_i, um_e, uz_r, uz_k, uz_i, uz_in]) (fun f _ _ => by simp (disch := first | omega | (simp (disch := decide) only [um_k]; omega) | exact cat_i | exact cat_u | exact cat_r | assumption | exact rfl) only [um_r, um_k, um_i, um_e, uz_r, uz_k, uz_i, uz_in]) (iP x g1 g2)
    · refine Both.same hI (-4) ?_ ?_
      · simp (disch := first | omega | (simp (disch := decide) only [um_k]; omega) | exact cat_i | exact cat_u | exact cat_r | assumption | exact rfl) only [b_161_0, b_161_33, b_161_54, b_161_64, b_161_85, b_161_99, hp, hw, hr _ _, W_isIn hr iN iP h1.1 h1.2.1 (s := 2) rfl, wr_of, ↓reduceIte, ck_T, lt_T, lt_F, le_T, le_F, eq_T, eq_F, and_true, true_and, and_false, false_and, or_true, true_or, or_false, false_or, and_self, or_self, not_true_eq_false, not_false_eq_true, implies_true, forall_const, true_implies, false_implies, ri_k, rn_k, rr_k, wr_bi, bi_e0, bi_e1, bi_T, bi_F, Classical.not_not, itp, itn, ck_t]
      · simp (disch := first | omega | (simp (disch := decide) only [um_k]; omega) | exact cat_i | exact cat_u | exact cat_r | assumption | exact rfl) only [b_269_0, b_269_58, hp, hw, hr _ _, wr_of, ↓reduceIte, ck_T, lt_T, lt_F, le_T, le_F, eq_T, eq_F, and_true, true_and, and_false, false_and, or_true, true_or, or_false, false_or, and_self, or_self, not_true_eq_false, not_false_eq_true, implies_true, forall_const, true_implies, false_implies, ri_k, rn_k, rr_k, wr_bi, bi_e0, bi_e1, bi_T, bi_F, Classical.not_not, itp, itn, ck_t]
  · refine Both.same hI (-1) ?_ ?_
    · simp (disch := first | omega | (simp (disch := decide) only [um_k]; omega) | exact cat_i | exact cat_u | exact cat_r | assumption | exact rfl) only [b_161_0, hp, hw, hr _ _, wr_of, ↓reduceIte, ck_T, lt_T, lt_F, le_T, le_F, eq_T, eq_F, and_true, true_and, and_false, false_and, or_true, true_or, or_false, false_or, and_self, or_self, not_true_eq_false, not_false_eq_true, implies_true, forall_const, true_implies, false_implies, ri_k, rn_k, rr_k, wr_bi, bi_e0, bi_e1, bi_T, bi_F, Classical.not_not, itp, itn, ck_t]
    · simp (disch := first | omega | (simp (disch := decide) only [um_k]; omega) | exact cat_i | exact cat_u | exact cat_r | assumption | exact rfl) only [b_269_0, hp, hw, hr _ _, wr_of, ↓reduceIte, ck_T, lt_T, lt_F, le_T, le_F, eq_T, eq_F, and_true, true_and, and_false, false_and, or_true, true_or, or_false, false_or, and_self, or_self, not_true_eq_false, not_false_eq_true, implies_true, forall_const, true_implies, false_implies, ri_k, rn_k, rr_k, wr_bi, bi_e0, bi_e1, bi_T, bi_F, Classical.not_not, itp, itn, ck_t]
theorem call_sails {p w : Int} (hI : Inv m) (hp : wr p = p) (hw : wr w = w) : Both (Z e (d + 2) 164 0 [.ref 0, .int (iI (p)), .int (iI (w)), .retAddr 0, .retAddr 0, .retAddr 0] []) (Z e (d + 2) 272 0 [.ref 246, .int (iI (p)), .int (iI (w)), .retAddr 0, .retAddr 0, .retAddr 0] []) m := by
  obtain ⟨hr, ⟨iN, iG, iP, iH, iS, iD, iT, iO, iU, iR, iV⟩, iK, iL, iF, iB, iA, iW, iX⟩ := id hI
  have bN := iN
  unfold cNum at bN
  by_cases h1 : 0 ≤ p ∧ p < m 247 1 ∧ 0 ≤ w ∧ w ≤ 2
  · have q := iP p h1.1 h1.2.1
    have q7 := q.1 7 (by decide) (by decide)
    have q3 := q.1 3 (by decide) (by decide)
    unfold pRow at q
    by_cases h2 : m 247 (110 + 9 * p + 2) = 3
    · have b7 : 0 ≤ m 247 (110 + 9 * p + 7) ∧ m 247 (110 + 9 * p + 7) < 5 := by omega
      have r3 := (iR _ b7.1 b7.2).2
      have h5 := W_comeDay (e := e) (d := d) (m := m) iN iR b7.1 b7.2 (h := m 247 (110 + 9 * p + 3)) (by omega) (by omega)
      have h6 := W_tides (e := e) (d := d) (m := m) hr iN iR b7.1 b7.2 (c := m 247 (110 + 9 * p + 3) / 24 + m 247 (1282 + 3 * m 247 (110 + 9 * p + 7) + 0)) (by omega) (by omega)
      have h7 := M_ship (e := e) (d := d + 1) (m := m) hr iR b7.1 b7.2 (c := m 247 (110 + 9 * p + 3) / 24 + m 247 (1282 + 3 * m 247 (110 + 9 * p + 7) + 0)) (by omega) (by omega)
      have e0 : m 247 (1282 + 3 * m 247 (110 + 9 * p + 7)) = m 247 (1282 + 3 * m 247 (110 + 9 * p + 7) + 0) := by rw [Int.add_zero]
      have h8 : -3 ≤ tid (m 247) (m 247 (110 + 9 * p + 7)) (m 247 (110 + 9 * p + 3) / 24 + m 247 (1282 + 3 * m 247 (110 + 9 * p + 7) + 0)) ∧ tid (m 247) (m 247 (110 + 9 * p + 7)) (m 247 (110 + 9 * p + 3) / 24 + m 247 (1282 + 3 * m 247 (110 + 9 * p + 7) + 0)) ≤ 30 := by
        unfold tid
        by_cases g : m 247 (1282 + 3 * m 247 (110 + 9 * p + 7) + 1) ≤ m 247 (1282 + 3 * m 247 (110 + 9 * p + 7) + 2)
        · rw [cif_t g]; omega
        · rw [cif_f g]
          have g1 := Int.emod_nonneg (m 247 (1282 + 3 * m 247 (110 + 9 * p + 7) + 2) - (m 247 (110 + 9 * p + 3) / 24 + m 247 (1282 + 3 * m 247 (110 + 9 * p + 7) + 0))) (show m 247 (1282 + 3 * m 247 (110 + 9 * p + 7) + 1) ≠ 0 by omega)
          have g2 := Int.emod_lt_of_pos (m 247 (1282 + 3 * m 247 (110 + 9 * p + 7) + 2) - (m 247 (110 + 9 * p + 3) / 24 + m 247 (1282 + 3 * m 247 (110 + 9 * p + 7) + 0))) (show 0 < m 247 (1282 + 3 * m 247 (110 + 9 * p + 7) + 1) by omega)
          omega
      generalize tid (m 247) (m 247 (110 + 9 * p + 7)) (m 247 (110 + 9 * p + 3) / 24 + m 247 (1282 + 3 * m 247 (110 + 9 * p + 7) + 0)) = T at h6 h7 h8
      have w0 : w = 0 ∨ w = 1 ∨ w = 2 := by omega
      by_cases h9 : T = -3
      · rw [cif_t h9] at h7
        rcases w0 with w0 | w0 | w0
        · refine Both.same hI (m 247 (110 + 9 * p + 3) / 24 + m 247 (1282 + 3 * m 247 (110 + 9 * p + 7) + 0)) ?_ ?_
          · simp (disch := first | omega | (simp (disch := decide) only [um_k]; omega) | exact cat_i | exact cat_u | exact cat_r | assumption | exact rfl) only [b_164_0, b_164_28, b_164_47, b_164_65, b_164_68, b_164_87, hp, hw, hr _ _, W_isIn hr iN iP h1.1 h1.2.1 (s := 3) rfl, get_4, q7, q3, h5, h6, wr_of, ↓reduceIte, ck_T, lt_T, lt_F, le_T, le_F, eq_T, eq_F, and_true, true_and, and_false, false_and, or_true, true_or, or_false, false_or, and_self, or_self, not_true_eq_false, not_false_eq_true, implies_true, forall_const, true_implies, false_implies, ri_k, rn_k, rr_k, wr_bi, bi_e0, bi_e1, bi_T, bi_F, Classical.not_not, itp, itn, ck_t]
          · simp (disch := first | omega | (simp (disch := decide) only [um_k]; omega) | exact cat_i | exact cat_u | exact cat_r | assumption | exact rfl) only [b_272_0, b_272_78, hp, hw, hr _ _, jdiv_n, e0, h7, wr_of, ↓reduceIte, ck_T, lt_T, lt_F, le_T, le_F, eq_T, eq_F, and_true, true_and, and_false, false_and, or_true, true_or, or_false, false_or, and_self, or_self, not_true_eq_false, not_false_eq_true, implies_true, forall_const, true_implies, false_implies, ri_k, rn_k, rr_k, wr_bi, bi_e0, bi_e1, bi_T, bi_F, Classical.not_not, itp, itn, ck_t]
        · refine Both.same hI (-3) ?_ ?_
          · simp (disch := first | omega | (simp (disch := decide) only [um_k]; omega) | exact cat_i | exact cat_u | exact cat_r | assumption | exact rfl) only [b_164_0, b_164_28, b_164_47, b_164_65, b_164_68, b_164_87, hp, hw, hr _ _, W_isIn hr iN iP h1.1 h1.2.1 (s := 3) rfl, get_4, q7, q3, h5, h6, wr_of, ↓reduceIte, ck_T, lt_T, lt_F, le_T, le_F, eq_T, eq_F, and_true, true_and, and_false, false_and, or_true, true_or, or_false, false_or, and_self, or_self, not_true_eq_false, not_false_eq_true, implies_true, forall_const, true_implies, false_implies, ri_k, rn_k, rr_k, wr_bi, bi_e0, bi_e1, bi_T, bi_F, Classical.not_not, itp, itn, ck_t]
          · simp (disch := first | omega | (simp (disch := decide) only [um_k]; omega) | exact cat_i | exact cat_u | exact cat_r | assumption | exact rfl) only [b_272_0, b_272_78, hp, hw, hr _ _, jdiv_n, e0, h7, wr_of, ↓reduceIte, ck_T, lt_T, lt_F, le_T, le_F, eq_T, eq_F, and_true, true_and, and_false, false_and, or_true, true_or, or_false, false_or, and_self, or_self, not_true_eq_false, not_false_eq_true, implies_true, forall_const, true_implies, false_implies, ri_k, rn_k, rr_k, wr_bi, bi_e0, bi_e1, bi_T, bi_F, Classical.not_not, itp, itn, ck_t]
        · refine Both.same hI (-3) ?_ ?_
          · simp (disch := first | omega | (simp (disch := decide) only [um_k]; omega) | exact cat_i | exact cat_u | exact cat_r | assumption | exact rfl) only [b_164_0, b_164_28, b_164_47, b_164_65, b_164_68, b_164_87, hp, hw, hr _ _, W_isIn hr iN iP h1.1 h1.2.1 (s := 3) rfl, get_4, q7, q3, h5, h6, wr_of, ↓reduceIte, ck_T, lt_T, lt_F, le_T, le_F, eq_T, eq_F, and_true, true_and, and_false, false_and, or_true, true_or, or_false, false_or, and_self, or_self, not_true_eq_false, not_false_eq_true, implies_true, forall_const, true_implies, false_implies, ri_k, rn_k, rr_k, wr_bi, bi_e0, bi_e1, bi_T, bi_F, Classical.not_not, itp, itn, ck_t]
          · simp (disch := first | omega | (simp (disch := decide) only [um_k]; omega) | exact cat_i | exact cat_u | exact cat_r | assumption | exact rfl) only [b_272_0, b_272_78, hp, hw, hr _ _, jdiv_n, e0, h7, wr_of, ↓reduceIte, ck_T, lt_T, lt_F, le_T, le_F, eq_T, eq_F, and_true, true_and, and_false, false_and, or_true, true_or, or_false, false_or, and_self, or_self, not_true_eq_false, not_false_eq_true, implies_true, forall_const, true_implies, false_implies, ri_k, rn_k, rr_k, wr_bi, bi_e0, bi_e1, bi_T, bi_F, Classical.not_not, itp, itn, ck_t]
      · rw [cif_f h9] at h7
        rcases w0 with w0 | w0 | w0
        · refine Both.same hI (m 247 (110 + 9 * p + 3) / 24 + m 247 (1282 + 3 * m 247 (110 + 9 * p + 7) + 0)) ?_ ?_
          · simp (disch := first | omega | (simp (disch := decide) only [um_k]; omega) | exact cat_i | exact cat_u | exact cat_r | assumption | exact rfl) only [b_164_0, b_164_28, b_164_47, b_164_65, b_164_68, b_164_87, hp, hw, hr _ _, W_isIn hr iN iP h1.1 h1.2.1 (s := 3) rfl, get_4, q7, q3, h5, h6, wr_of, ↓reduceIte, ck_T, lt_T, lt_F, le_T, le_F, eq_T, eq_F, and_true, true_and, and_false, false_and, or_true, true_or, or_false, false_or, and_self, or_self, not_true_eq_false, not_false_eq_true, implies_true, forall_const, true_implies, false_implies, ri_k, rn_k, rr_k, wr_bi, bi_e0, bi_e1, bi_T, bi_F, Classical.not_not, itp, itn, ck_t]
          · simp (disch := first | omega | (simp (disch := decide) only [um_k]; omega) | exact cat_i | exact cat_u | exact cat_r | assumption | exact rfl) only [b_272_0, b_272_78, hp, hw, hr _ _, jdiv_n, e0, h7, wr_of, ↓reduceIte, ck_T, lt_T, lt_F, le_T, le_F, eq_T, eq_F, and_true, true_and, and_false, false_and, or_true, true_or, or_false, false_or, and_self, or_self, not_true_eq_false, not_false_eq_true, implies_true, forall_const, true_implies, false_implies, ri_k, rn_k, rr_k, wr_bi, bi_e0, bi_e1, bi_T, bi_F, Classical.not_not, itp, itn, ck_t]
        · refine Both.same hI (m 247 (110 + 9 * p + 3) / 24 + m 247 (1282 + 3 * m 247 (110 + 9 * p + 7) + 0) + T) ?_ ?_
          · simp (disch := first | omega | (simp (disch := decide) only [um_k]; omega) | exact cat_i | exact cat_u | exact cat_r | assumption | exact rfl) only [b_164_0, b_164_28, b_164_47, b_164_65, b_164_68, b_164_87, hp, hw, hr _ _, W_isIn hr iN iP h1.1 h1.2.1 (s := 3) rfl, get_4, q7, q3, h5, h6, wr_of, ↓reduceIte, ck_T, lt_T, lt_F, le_T, le_F, eq_T, eq_F, and_true, true_and, and_false, false_and, or_true, true_or, or_false, false_or, and_self, or_self, not_true_eq_false, not_false_eq_true, implies_true, forall_const, true_implies, false_implies, ri_k, rn_k, rr_k, wr_bi, bi_e0, bi_e1, bi_T, bi_F, Classical.not_not, itp, itn, ck_t]
          · simp (disch := first | omega | (simp (disch := decide) only [um_k]; omega) | exact cat_i | exact cat_u | exact cat_r | assumption | exact rfl) only [b_272_0, b_272_78, hp, hw, hr _ _, jdiv_n, e0, h7, wr_of, ↓reduceIte, ck_T, lt_T, lt_F, le_T, le_F, eq_T, eq_F, and_true, true_and, and_false, false_and, or_true, true_or, or_false, false_or, and_self, or_self, not_true_eq_false, not_false_eq_true, implies_true, forall_const, true_implies, false_implies, ri_k, rn_k, rr_k, wr_bi, bi_e0, bi_e1, bi_T, bi_F, Classical.not_not, itp, itn, ck_t]
        · refine Both.same hI T ?_ ?_
          · simp (disch := first | omega | (simp (disch := decide) only [um_k]; omega) | exact cat_i | exact cat_u | exact cat_r | assumption | exact rfl) only [b_164_0, b_164_28, b_164_47, b_164_65, b_164_68, b_164_87, hp, hw, hr _ _, W_isIn hr iN iP h1.1 h1.2.1 (s := 3) rfl, get_4, q7, q3, h5, h6, wr_of, ↓reduceIte, ck_T, lt_T, lt_F, le_T, le_F, eq_T, eq_F, and_true, true_and, and_false, false_and, or_true, true_or, or_false, false_or, and_self, or_self, not_true_eq_false, not_false_eq_true, implies_true, forall_const, true_implies, false_implies, ri_k, rn_k, rr_k, wr_bi, bi_e0, bi_e1, bi_T, bi_F, Classical.not_not, itp, itn, ck_t]
          · simp (disch := first | omega | (simp (disch := decide) only [um_k]; omega) | exact cat_i | exact cat_u | exact cat_r | assumption | exact rfl) only [b_272_0, b_272_78, hp, hw, hr _ _, jdiv_n, e0, h7, wr_of, ↓reduceIte, ck_T, lt_T, lt_F, le_T, le_F, eq_T, eq_F, and_true, true_and, and_false, false_and, or_true, true_or, or_false, false_or, and_self, or_self, not_true_eq_false, not_false_eq_true, implies_true, forall_const, true_implies, false_implies, ri_k, rn_k, rr_k, wr_bi, bi_e0, bi_e1, bi_T, bi_F, Classical.not_not, itp, itn, ck_t]
            congr 1
            omega
    · refine Both.same hI (-4) ?_ ?_
      · simp (disch := first | omega | (simp (disch := decide) only [um_k]; omega) | exact cat_i | exact cat_u | exact cat_r | assumption | exact rfl) only [b_164_0, b_164_28, b_164_47, b_164_65, b_164_68, b_164_87, hp, hw, hr _ _, W_isIn hr iN iP h1.1 h1.2.1 (s := 3) rfl, wr_of, ↓reduceIte, ck_T, lt_T, lt_F, le_T, le_F, eq_T, eq_F, and_true, true_and, and_false, false_and, or_true, true_or, or_false, false_or, and_self, or_self, not_true_eq_false, not_false_eq_true, implies_true, forall_const, true_implies, false_implies, ri_k, rn_k, rr_k, wr_bi, bi_e0, bi_e1, bi_T, bi_F, Classical.not_not, itp, itn, ck_t]
      · simp (disch := first | omega | (simp (disch := decide) only [um_k]; omega) | exact cat_i | exact cat_u | exact cat_r | assumption | exact rfl) only [b_272_0, b_272_78, hp, hw, hr _ _, wr_of, ↓reduceIte, ck_T, lt_T, lt_F, le_T, le_F, eq_T, eq_F, and_true, true_and, and_false, false_and, or_true, true_or, or_false, false_or, and_self, or_self, not_true_eq_false, not_false_eq_true, implies_true, forall_const, true_implies, false_implies, ri_k, rn_k, rr_k, wr_bi, bi_e0, bi_e1, bi_T, bi_F, Classical.not_not, itp, itn, ck_t]
  · refine Both.same hI (-1) ?_ ?_
    · simp (disch := first | omega | (simp (disch := decide) only [um_k]; omega) | exact cat_i | exact cat_u | exact cat_r | assumption | exact rfl) only [b_164_0, hp, hw, hr _ _, wr_of, ↓reduceIte, ck_T, lt_T, lt_F, le_T, le_F, eq_T, eq_F, and_true, true_and, and_false, false_and, or_true, true_or, or_false, false_or, and_self, or_self, not_true_eq_false, not_false_eq_true, implies_true, forall_const, true_implies, false_implies, ri_k, rn_k, rr_k, wr_bi, bi_e0, bi_e1, bi_T, bi_F, Classical.not_not, itp, itn, ck_t]
    · simp (disch := first | omega | (simp (disch := decide) only [um_k]; omega) | exact cat_i | exact cat_u | exact cat_r | assumption | exact rfl) only [b_272_0, hp, hw, hr _ _, wr_of, ↓reduceIte, ck_T, lt_T, lt_F, le_T, le_F, eq_T, eq_F, and_true, true_and, and_false, false_and, or_true, true_or, or_false, false_or, and_self, or_self, not_true_eq_false, not_false_eq_true, implies_true, forall_const, true_implies, false_implies, ri_k, rn_k, rr_k, wr_bi, bi_e0, bi_e1, bi_T, bi_F, Classical.not_not, itp, itn, ck_t]
/-- a deed that is known and no debt -/
def nodebt (N : Int → Int) (p : Int) : Prop := ∃ q, 0 ≤ q ∧ q < N 4 ∧ ((N (794 + 6 * q + 0) = p ∧ N (794 + 6 * q + 5) ≤ N 0) ∧ ¬ N (794 + 6 * q + 1) = 3)
theorem W_known {p : Int} (hr : Rng m) (iN : cNum m (m 247)) (iD : cDee m (m 247)) (hp : wr p = p) : Z e (d + 1) 131 0 [.ref 1, .int (iI (p)), .retAddr 0, .retAddr 0] [] m = ri (bi (nodebt (m 247) p)) m := by
  have bN := iN
  unfold cNum at bN
  rw [b_131_0]
  have loop : ∀ (k : Nat) (j : Int) (u3 : Value), j + k = m 247 4 → 0 ≤ j → Z e (d + 1) 131 2 [.ref 1, .int (iI (p)), .int (iI (j)), u3] [] m = ri (bi (∃ q, j ≤ q ∧ q < m 247 4 ∧ ((m 247 (794 + 6 * q + 0) = p ∧ m 247 (794 + 6 * q + 5) ≤ m 247 0) ∧ ¬ m 247 (794 + 6 * q + 1) = 3))) m := by
    intro k
    induction k with
    | zero =>
      intro j u3 hk h0
      rw [bi_f (by rintro ⟨q, q1, q2, -⟩; omega)]
      refine (b_131_2).trans ?_
      simp (disch := first | omega | (simp (disch := decide) only [um_k]; omega) | exact cat_i | exact cat_u | exact cat_r | assumption | exact rfl) only [hr _ _, wr_of, ↓reduceIte, ck_T, lt_T, lt_F, le_T, le_F, eq_T, eq_F, and_true, true_and, and_false, false_and, or_true, true_or, or_false, false_or, and_self, or_self, not_true_eq_false, not_false_eq_true, implies_true, forall_const, true_implies, false_implies, ri_k, rn_k, rr_k, wr_bi, bi_e0, bi_e1, bi_T, bi_F, Classical.not_not, itp, itn, ck_t]
    | succ k ih =>
      intro j u3 hk h0
      have q0 := (iD j h0 (by omega)).1 0 (by decide) (by decide)
      have q1 := (iD j h0 (by omega)).1 1 (by decide) (by decide)
      have q5 := (iD j h0 (by omega)).1 5 (by decide) (by decide)
      refine (b_131_2).trans ?_
      by_cases c1 : m 247 (794 + 6 * j + 0) = p ∧ m 247 (794 + 6 * j + 5) ≤ m 247 0
      · by_cases c2 : m 247 (794 + 6 * j + 1) = 3
        · simp (disch := first | omega | (simp (disch := decide) only [um_k]; omega) | exact cat_i | exact cat_u | exact cat_r | assumption | exact rfl) only [b_131_22, b_131_47, b_131_35, b_131_61, get_8, q0, q1, q5, hr _ _, hp, bN.1.1, ih (j + 1) _ (by omega) (by omega), wr_of, ↓reduceIte, ck_T, lt_T, lt_F, le_T, le_F, eq_T, eq_F, and_true, true_and, and_false, false_and, or_true, true_or, or_false, false_or, and_self, or_self, not_true_eq_false, not_false_eq_true, implies_true, forall_const, true_implies, false_implies, ri_k, rn_k, rr_k, wr_bi, bi_e0, bi_e1, bi_T, bi_F, Classical.not_not, itp, itn, ck_t]
          congr 1
          refine bi_cg ⟨fun ⟨q, g1, g2, g3⟩ => ⟨q, by omega, g2, g3⟩, fun ⟨q, g1, g2, g3⟩ => ⟨q, ?_, g2, g3⟩⟩
          by_cases hq : q = j
          · rw [hq] at g3; exact absurd c2 g3.2
          · omega
        · simp (disch := first | omega | (simp (disch := decide) only [um_k]; omega) | exact cat_i | exact cat_u | exact cat_r | assumption | exact rfl) only [b_131_22, b_131_47, b_131_35, b_131_61, get_8, q0, q1, q5, hr _ _, hp, bN.1.1, wr_of, ↓reduceIte, ck_T, lt_T, lt_F, le_T, le_F, eq_T, eq_F, and_true, true_and, and_false, false_and, or_true, true_or, or_false, false_or, and_self, or_self, not_true_eq_false, not_false_eq_true, implies_true, forall_const, true_implies, false_implies, ri_k, rn_k, rr_k, wr_bi, bi_e0, bi_e1, bi_T, bi_F, Classical.not_not, itp, itn, ck_t]
          rw [bi_t ⟨j, by omega, by omega, c1, c2⟩]
      · have : (∃ q, j ≤ q ∧ q < m 247 4 ∧ ((m 247 (794 + 6 * q + 0) = p ∧ m 247 (794 + 6 * q + 5) ≤ m 247 0) ∧ ¬ m 247 (794 + 6 * q + 1) = 3)) ↔ (∃ q, j + 1 ≤ q ∧ q < m 247 4 ∧ ((m 247 (794 + 6 * q + 0) = p ∧ m 247 (794 + 6 * q + 5) ≤ m 247 0) ∧ ¬ m 247 (794 + 6 * q + 1) = 3)) := by
          refine ⟨fun ⟨q, g1, g2, g3⟩ => ⟨q, ?_, g2, g3⟩, fun ⟨q, g1, g2, g3⟩ => ⟨q, by omega, g2, g3⟩⟩
          by_cases hq : q = j
          · rw [hq] at g3; exact absurd g3.1 c1
          · omega
        rw [bi_cg this]
        by_cases c0 : m 247 (794 + 6 * j + 0) = p
        · simp (disch := first | omega | (simp (disch := decide) only [um_k]; omega) | exact cat_i | exact cat_u | exact cat_r | assumption | exact rfl) only [b_131_22, b_131_47, b_131_35, b_131_61, get_8, q0, q1, q5, hr _ _, hp, bN.1.1, ih (j + 1) _ (by omega) (by omega), wr_of, ↓reduceIte, ck_T, lt_T, lt_F, le_T, le_F, eq_T, eq_F, and_true, true_and, and_false, false_and, or_true, true_or, or_false, false_or, and_self, or_self, not_true_eq_false, not_false_eq_true, implies_true, forall_const, true_implies, false_implies, ri_k, rn_k, rr_k, wr_bi, bi_e0, bi_e1, bi_T, bi_F, Classical.not_not, itp, itn, ck_t]
        · simp (disch := first | omega | (simp (disch := decide) only [um_k]; omega) | exact cat_i | exact cat_u | exact cat_r | assumption | exact rfl) only [b_131_22, b_131_47, b_131_35, b_131_61, get_8, q0, q1, q5, hr _ _, hp, bN.1.1, ih (j + 1) _ (by omega) (by omega), wr_of, ↓reduceIte, ck_T, lt_T, lt_F, le_T, le_F, eq_T, eq_F, and_true, true_and, and_false, false_and, or_true, true_or, or_false, false_or, and_self, or_self, not_true_eq_false, not_false_eq_true, implies_true, forall_const, true_implies, false_implies, ri_k, rn_k, rr_k, wr_bi, bi_e0, bi_e1, bi_T, bi_F, Classical.not_not, itp, itn, ck_t]
  exact loop (m 247 4).toNat 0 _ (by omega) (by omega)
theorem M_dwell {p : Int} (hr : Rng m) (iN : cNum m (m 247)) (hp : wr p = p) (h0 : 0 ≤ p) (h1 : p < m 247 1) : Z e (d + 2) 270 0 [.ref 246, .int (iI (p)), .retAddr 0, .retAddr 0, .retAddr 0] [] m = cif (¬ m 247 (110 + 9 * p + 2) = 1 ∨ nodebt (m 247) p) (ri (-4) m) (ri 1 (um (um m 247 (110 + 9 * p + 2) 4) 247 (110 + 9 * p + 3) (m 247 0))) := by
  have bN := iN
  unfold cNum at bN
  have loop : ∀ (k : Nat) (j x : Int) (u4 : Value), j + k = m 247 4 → 0 ≤ j → x = bi (¬ ∃ q, 0 ≤ q ∧ q < j ∧ ((m 247 (794 + 6 * q + 0) = p ∧ m 247 (794 + 6 * q + 5) ≤ m 247 0) ∧ ¬ m 247 (794 + 6 * q + 1) = 3)) → Z e (d + 2) 270 14 [.ref 246, .int (iI (p)), .int (iI (x)), .int (iI (j)), u4] [] m = cif (¬ m 247 (110 + 9 * p + 2) = 1 ∨ nodebt (m 247) p) (ri (-4) m) (ri 1 (um (um m 247 (110 + 9 * p + 2) 4) 247 (110 + 9 * p + 3) (m 247 0))) := by
    intro k
    induction k with
    | zero =>
      intro j x u4 hk g0 hx
      have hj : j = m 247 4 := by omega
      refine (b_270_14).trans ?_
      subst hx
      rw [hj]
      simp (disch := first | omega | (simp (disch := decide) only [um_k]; omega) | exact cat_i | exact cat_u | exact cat_r | assumption | exact rfl) only [hr _ _, b_270_99, wr_of, ↓reduceIte, ck_T, lt_T, lt_F, le_T, le_F, eq_T, eq_F, and_true, true_and, and_false, false_and, or_true, true_or, or_false, false_or, and_self, or_self, not_true_eq_false, not_false_eq_true, implies_true, forall_const, true_implies, false_implies, ri_k, rn_k, rr_k, wr_bi, bi_T, bi_F, Classical.not_not, itp, itn, ck_t]
      by_cases h2 : m 247 (110 + 9 * p + 2) = 1
      · by_cases h3 : nodebt (m 247) p
        · rw [cif_t (Or.inr h3), itp (Or.inr (bi_f (fun q => q h3)))]
        · rw [cif_f (by rintro (q | q); exact q h2; exact h3 q), itn (by rintro (q | q); exact q h2; exact h3 (Classical.not_not.mp (bi_e0.mp q)))]
          simp (disch := first | omega | (simp (disch := decide) only [um_k]; omega) | exact cat_i | exact cat_u | exact cat_r | assumption | exact rfl) only [um_r, um_k, um_i, um_e, uz_r, uz_k, uz_i, uz_in]
      · rw [cif_t (Or.inl h2), itp (Or.inl h2)]
    | succ k ih =>
      intro j x u4 hk g0 hx
      have := ih (j + 1) (bi (¬ ∃ q, 0 ≤ q ∧ q < j + 1 ∧ ((m 247 (794 + 6 * q + 0) = p ∧ m 247 (794 + 6 * q + 5) ≤ m 247 0) ∧ ¬ m 247 (794 + 6 * q + 1) = 3))) (.int (iI (if m 247 (794 + 6 * j + 0) = p ∧ m 247 (794 + 6 * j + 5) ≤ m 247 0 then 1 else 0))) (by omega) (by omega) rfl
      refine (b_270_14).trans ?_
      rw [← this]
      subst hx
      simp (disch := first | omega | (simp (disch := decide) only [um_k]; omega) | exact cat_i | exact cat_u | exact cat_r | assumption | exact rfl) only [hr _ _, hp, wr_of, ↓reduceIte, ck_T, lt_T, lt_F, le_T, le_F, eq_T, eq_F, and_true, true_and, and_false, false_and, or_true, true_or, or_false, false_or, and_self, or_self, not_true_eq_false, not_false_eq_true, implies_true, forall_const, true_implies, false_implies, ri_k, rn_k, rr_k, wr_bi, bi_T, bi_F, Classical.not_not, itp, itn, ck_t]
      refine congrArg (fun q => Z e (d + 2) 270 14 [.ref 246, .int (iI (p)), .int (iI (q)), .int (iI (j + 1)), .int (iI (if m 247 (794 + 6 * j + 0) = p ∧ m 247 (794 + 6 * j + 5) ≤ m 247 0 then 1 else 0))] [] m) ?_
      rw [bi_if]
      apply bi_cg
      simp only [bi_e0, Classical.not_not]
      refine ⟨fun ⟨g1, g2⟩ ⟨q, g3, g4, g5⟩ => ?_, fun g1 => ⟨fun ⟨q, g3, g4, g5⟩ => g1 ⟨q, g3, by omega, g5⟩, ?_⟩⟩
      · by_cases hq : q = j
        · rw [hq] at g5
          rcases g2 with g2 | g2
          · exact g2 g5.1
          · exact g5.2 g2
        · exact g1 ⟨q, g3, by omega, g5⟩
      · by_cases c1 : m 247 (794 + 6 * j + 0) = p ∧ m 247 (794 + 6 * j + 5) ≤ m 247 0
        · by_cases c2 : m 247 (794 + 6 * j + 1) = 3
          · exact Or.inr c2
          · exact absurd ⟨j, g0, by omega, c1, c2⟩ g1
        · exact Or.inl c1
  have h := loop (m 247 4).toNat 0 1 (.retAddr 0) (by omega) (by omega) (by rw [bi_t (by rintro ⟨q, g1, g2, -⟩; omega)])
  simp (disch := first | omega | (simp (disch := decide) only [um_k]; omega) | exact cat_i | exact cat_u | exact cat_r | assumption | exact rfl) only [b_270_0, hp, hr _ _, h, wr_of, ↓reduceIte, ck_T, lt_T, lt_F, le_T, le_F, eq_T, eq_F, and_true, true_and, and_false, false_and, or_true, true_or, or_false, false_or, and_self, or_self, not_true_eq_false, not_false_eq_true, implies_true, forall_const, true_implies, false_implies, ri_k, rn_k, rr_k, wr_bi, bi_e0, bi_e1, bi_T, bi_F, Classical.not_not, itp, itn, ck_t]
theorem call_dwell {p : Int} (hI : Inv m) (hp : wr p = p) : Both (Z e (d + 2) 162 0 [.ref 0, .int (iI (p))] []) (Z e (d + 2) 270 0 [.ref 246, .int (iI (p)), .retAddr 0, .retAddr 0, .retAddr 0] []) m := by
  obtain ⟨hr, ⟨iN, iG, iP, iH, iS, iD, iT, iO, iU, iR, iV⟩, iK, iL, iF, iB, iA, iW, iX⟩ := id hI
  have bN := iN
  unfold cNum at bN
  by_cases h1 : 0 ≤ p ∧ p < m 247 1
  · by_cases h2 : m 247 (110 + 9 * p + 2) = 1
    · by_cases h3 : nodebt (m 247) p
      · refine Both.same hI (-4) ?_ ?_
        · simp (disch := first | omega | (simp (disch := decide) only [um_k]; omega) | exact cat_i | exact cat_u | exact cat_r | assumption | exact rfl) only [b_162_0, b_162_19, b_162_30, b_162_45, hp, hr _ _, W_isIn hr iN iP h1.1 h1.2 (s := 1) rfl, W_known hr iN iD hp, bi_t h3, wr_of, ↓reduceIte, ck_T, lt_T, lt_F, le_T, le_F, eq_T, eq_F, and_true, true_and, and_false, false_and, or_true, true_or, or_false, false_or, and_self, or_self, not_true_eq_false, not_false_eq_true, implies_true, forall_const, true_implies, false_implies, ri_k, rn_k, rr_k, wr_bi, bi_e0, bi_e1, bi_T, bi_F, Classical.not_not, itp, itn, ck_t]
        · rw [M_dwell hr iN hp h1.1 h1.2, cif_t (Or.inr h3)]
      · refine ⟨1, um (um m 5 (p * 18 + 2) 4) 5 (p * 18 + 3) (m 247 0), um (um (um (um m 5 (p * 18 + 2) 4) 5 (p * 18 + 3) (m 247 0)) 247 (110 + 9 * p + 2) 4) 247 (110 + 9 * p + 3) (m 247 0), ?_, ?_, ?_⟩
        · simp (disch := first | omega | (simp (disch := decide) only [um_k]; omega) | exact cat_i | exact cat_u | exact cat_r | assumption | exact rfl) only [b_162_0, b_162_19, b_162_30, b_162_45, hp, hr _ _, W_isIn hr iN iP h1.1 h1.2 (s := 1) rfl, W_known hr iN iD hp, bi_f h3, W_become iN h1.1 h1.2, wr_of, ↓reduceIte, ck_T, lt_T, lt_F, le_T, le_F, eq_T, eq_F, and_true, true_and, and_false, false_and, or_true, true_or, or_false, false_or, and_self, or_self, not_true_eq_false, not_false_eq_true, implies_true, forall_const, true_implies, false_implies, ri_k, rn_k, rr_k, wr_bi, bi_e0, bi_e1, bi_T, bi_F, Classical.not_not, itp, itn, ck_t]
        · have hh := M_dwell (e := e) (d := d) (m := um (um m 5 (p * 18 + 2) 4) 5 (p * 18 + 3) (m 247 0)) (p := p) ((hr.um rfl).um (hr _ _)) (cNum_cg (by simp (disch := first | omega | (simp (disch := decide) only [um_k]; omega) | exact cat_i | exact cat_u | exact cat_r | assumption | exact rfl) only [um_r, um_k, um_i, um_e, uz_r, uz_k, uz_i, uz_in]) (by simp (disch := first | omega | (simp (disch := decide) only [um_k]; omega) | exact cat_i | exact cat_u | exact cat_r | assumption | exact rfl) only [um_r, um_k, um_i, um_e, uz_r, uz_k, uz_i, uz_in]) (by simp (disch := first | omega | (simp (disch := decide) only [um_k]; omega) | exact cat_i | exact cat_u | exact cat_r | assumption | exact rfl) only [um_r, um_k, um_i, um_e, uz_r, uz_k, uz_i, uz_in]) (by simp (disch := first | omega | (simp (disch := decide) only [um_k]; omega) | exact cat_i | exact cat_u | exact cat_r | assumption | exact rfl) only [um_r, um_k, um_i, um_e, uz_r, uz_k, uz_i, uz_in]) (by simp (disch := first | omega | (simp (disch := decide) only [um_k]; omega) | exact cat_i | exact cat_u | exact cat_r | assumption | exact rfl) only [um_r, um_k, um_i, um_e, uz_r, uz_k, uz_i, uz_in]) (by simp (disch := first | omega | (simp (disch := decide) only [um_k]; omega) | exact cat_i | exact cat_u | exact cat_r | assumption | exact rfl) only [um_r, um_k, um_i, um_e, uz_r, uz_k, uz_i, uz_in]) (by simp (disch := first | omega | (simp (disch := decide) only [um_k]; omega) | exact cat_i | exact cat_u | exact cat_r | assumption | exact rfl) only [um_r, um_k, um_i, um_e, uz_r, uz_k, uz_i, uz_in]) (by simp (disch := first | omega | (simp (disch := decide) only [um_k]; omega) | exact cat_i | exact cat_u | exact cat_r | assumption | exact rfl) only [um_r, um_k, um_i, um_e, uz_r, uz_k, uz_i, uz_in]) (fun k _ _ => by simp (disch := first | omega | (simp (disch := decide) only [um_k]; omega) | exact cat_i | exact cat_u | exact cat_r | assumption | exact rfl) only [um_r, um_k, um_i, um_e, uz_r, uz_k, uz_i, uz_in]) iN) hp h1.1 (by simp (disch := first | omega | (simp (disch := decide) only [um_k]; omega) | exact cat_i | exact cat_u | exact cat_r | assumption | exact rfl) only [um_r, um_k, um_i, um_e, uz_r, uz_k, uz_i, uz_in]; exact h1.2)
          rw [hh]
          simp (disch := first | omega | (simp (disch := decide) only [um_k]; omega) | exact cat_i | exact cat_u | exact cat_r | assumption | exact rfl) only [um_r, um_k, um_i, um_e, uz_r, uz_k, uz_i, uz_in]
          rw [cif_f (by rintro (q | q); exact q h2; exact h3 q)]
        · exact Inv_bec hI h1.1 h1.2 (by decide) (fun q => by omega)
    · refine Both.same hI (-4) ?_ ?_
      · simp (disch := first | omega | (simp (disch := decide) only [um_k]; omega) | exact cat_i | exact cat_u | exact cat_r | assumption | exact rfl) only [b_162_0, b_162_19, b_162_30, b_162_45, hp, hr _ _, W_isIn hr iN iP h1.1 h1.2 (s := 1) rfl, wr_of, ↓reduceIte, ck_T, lt_T, lt_F, le_T, le_F, eq_T, eq_F, and_true, true_and, and_false, false_and, or_true, true_or, or_false, false_or, and_self, or_self, not_true_eq_false, not_false_eq_true, implies_true, forall_const, true_implies, false_implies, ri_k, rn_k, rr_k, wr_bi, bi_e0, bi_e1, bi_T, bi_F, Classical.not_not, itp, itn, ck_t]
      · rw [M_dwell hr iN hp h1.1 h1.2, cif_t (Or.inl h2)]
  · refine Both.same hI (-1) ?_ ?_
    · simp (disch := first | omega | (simp (disch := decide) only [um_k]; omega) | exact cat_i | exact cat_u | exact cat_r | assumption | exact rfl) only [b_162_0, hp, hr _ _, wr_of, ↓reduceIte, ck_T, lt_T, lt_F, le_T, le_F, eq_T, eq_F, and_true, true_and, and_false, false_and, or_true, true_or, or_false, false_or, and_self, or_self, not_true_eq_false, not_false_eq_true, implies_true, forall_const, true_implies, false_implies, ri_k, rn_k, rr_k, wr_bi, bi_e0, bi_e1, bi_T, bi_F, Classical.not_not, itp, itn, ck_t]
    · simp (disch := first | omega | (simp (disch := decide) only [um_k]; omega) | exact cat_i | exact cat_u | exact cat_r | assumption | exact rfl) only [b_270_0, hp, hr _ _, wr_of, ↓reduceIte, ck_T, lt_T, lt_F, le_T, le_F, eq_T, eq_F, and_true, true_and, and_false, false_and, or_true, true_or, or_false, false_or, and_self, or_self, not_true_eq_false, not_false_eq_true, implies_true, forall_const, true_implies, false_implies, ri_k, rn_k, rr_k, wr_bi, bi_e0, bi_e1, bi_T, bi_F, Classical.not_not, itp, itn, ck_t]
end PO
