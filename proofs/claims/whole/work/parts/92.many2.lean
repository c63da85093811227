/-! many, narrow. -/
section MN
variable {e : List Int32 × Value} {d : Nat} {m m0 : zMm} {N : Int → Int}
theorem jxor_m1 {y : Int} (h0 : 0 ≤ y) (h1 : y < 2147483648) : jxor y (-1) = -1 - y := by
  have e1 : (iI y ^^^ iI (-1)).toBitVec.toNat = 4294967295 - y.toNat := by
    have : (iI y ^^^ iI (-1)).toBitVec = ~~~ (iI y).toBitVec := by
      show (iI y).toBitVec ^^^ (iI (-1)).toBitVec = _
      rw [show (iI (-1)).toBitVec = BitVec.allOnes 32 by decide, BitVec.xor_allOnes]
    rw [this, BitVec.toNat_not, iI_nat h0 (by omega)]
  unfold jxor
  show (iI y ^^^ iI (-1)).toBitVec.toInt = _
  rw [BitVec.toInt_eq_toNat_bmod, e1, bm_wr]
  unfold wr
  omega
theorem jandn {x y : Int} (h0 : 0 ≤ x) (h1 : x < 2147483648) (h2 : 0 ≤ y) (h3 : y < 2147483648) : jand x (jxor y (-1)) = ((x.toNat &&& (2 ^ 32 - (y.toNat + 1)) : Nat) : Int) := by
  have e1 : jand x (jxor y (-1)) = jand x (4294967295 - y) := by
    rw [jxor_m1 h2 h3]
    unfold jand
    rw [show iI (-1 - y) = iI (4294967295 - y) from iI_eq.mpr (by unfold wr; omega)]
  rw [e1, jand_n h0 h1 (by omega) (by omega), show (4294967295 - y).toNat = 2 ^ 32 - (y.toNat + 1) by omega]
theorem jandn_b {x y : Int} (h0 : 0 ≤ x) (h1 : x < 2147483648) (h2 : 0 ≤ y) (h3 : y < 2147483648) : 0 ≤ jand x (jxor y (-1)) ∧ jand x (jxor y (-1)) ≤ x := by
  rw [jandn h0 h1 h2 h3]
  have : x.toNat &&& (2 ^ 32 - (y.toNat + 1)) ≤ x.toNat := Nat.and_le_left
  omega
theorem tb_andn {x y h : Int} (h0 : 0 ≤ x) (h1 : x < 2147483648) (h2 : 0 ≤ y) (h3 : y < 2147483648) (g0 : 0 ≤ h) (g1 : h < 32) : tb (jand x (jxor y (-1))) h ↔ tb x h ∧ ¬ tb y h := by
  rw [jandn h0 h1 h2 h3]
  unfold tb
  rw [Int.toNat_natCast, Nat.testBit_and, Nat.testBit_two_pow_sub_succ (by omega : y.toNat < 2 ^ 32)]
  have : h.toNat < 32 := by omega
  simp [this]
noncomputable def rnr (N : Int → Int) : Int := itr (fun p n => n + bi (¬ N (110 + 9 * p + 4) = -3)) 0 (N 1).toNat 0
theorem W_runners (hr : Rng m) (iN : cNum m (m 247)) (iP : cPpl m (m 247)) : Z e (d + 1) 132 0 [.ref 1, .retAddr 0, .retAddr 0] [] m = ri (rnr (m 247)) m := by
  have bN := iN
  unfold cNum at bN
  have key := lpG (F := fun i y (_ : Unit) => Z e (d + 1) 132 4 [.ref 1, .int (iI y), .int (iI i)] [] m) (G := fun y => ri y m) (f := fun p n => n + bi (¬ m 247 (110 + 9 * p + 4) = -3)) (I := fun _ _ => True) (n := m 247 1) (by omega) 0 () trivial
    (by
      intro i y u g1 g2 gI
      have q := iP i g1 g2
      unfold pRow at q
      have t4 := get_4 (e := e) (d := d) (m := m) (i := i) (j := 4) (by omega) (by omega) g1 (by omega) (by decide) (by decide)
      rw [q.1 4 (by decide) (by decide)] at t4
      refine ⟨⟨(), ?_⟩, trivial⟩
      refine (b_132_4).trans ?_
      have w1 : wr (m 247 1) = m 247 1 := hr _ _
      rw [wr_of (x := i) (by omega) (by omega), bN.2.1.1, w1, itp g2, t4, ri_k, b_132_24, hr]
      by_cases c : m 247 (110 + 9 * i + 4) = -3
      · rw [itn (fun z => z c), bi_f (fun z => z c), show y + (0 : Int) = y from Int.add_zero y]
      · rw [itp c, bi_t c])
    (by
      intro y u gI
      refine (b_132_4).trans ?_
      have w1 : wr (m 247 1) = m 247 1 := hr _ _
      rw [bN.2.1.1, w1, itn (by omega)])
  rw [b_132_0]
  exact key.1
theorem M_runners {u1 : Value} (hu : u1.category = 1) (hr : Rng m) (b1 : 0 ≤ m 247 1 ∧ m 247 1 ≤ 16) : Z e (d + 1) 318 83 [.ref 246, u1, .int (iI 0), .int (iI 0)] [] m = ri (rnr (m 247)) m := by
  have key := lpG (F := fun i y (_ : Unit) => Z e (d + 1) 318 83 [.ref 246, u1, .int (iI y), .int (iI i)] [] m) (G := fun y => ri y m) (f := fun p n => n + bi (¬ m 247 (110 + 9 * p + 4) = -3)) (I := fun _ _ => True) (n := m 247 1) b1.1 0 () trivial
    (by
      intro i y u g1 g2 gI
      refine ⟨⟨(), ?_⟩, trivial⟩
      refine (b_318_83 hu).trans ?_
      have w1 : wr (m 247 1) = m 247 1 := hr _ _
      rw [wr_of (x := i) (by omega) (by omega), w1, itp g2, wr_of (x := 110 + 9 * i + 4) (by omega) (by omega), ck_t (by omega), hr, bi_if])
    (by
      intro y u gI
      refine (b_318_83 hu).trans ?_
      have w1 : wr (m 247 1) = m 247 1 := hr _ _
      rw [w1, itn (by omega)])
  exact key.1
theorem mil_um {v : Int} (hI : Inv m) : mil (um m 246 13 v) (m 247 0) (mile (m 247) v (m 247 0)) := by
  have q := hI.2.2.2.2.1
  unfold RefOK at q
  refine Or.inl ⟨Or.inl ?_, ?_⟩
  · rw [um_i (by decide)]; omega
  · rw [um_r (by decide), um_s]
theorem call_many {w : Int} (hI : Inv m) (hw : wr w = w) : Both (Z e (d + 6) 191 0 [.ref 0, .int (iI (w))] []) (Z e (d + 15) 318 0 [.ref 246, .int (iI (w)), .retAddr 0, .retAddr 0] []) m := by
  obtain ⟨hr, ⟨iN, iG, iP, iH, iS, iD, iT, iO, iU, iR, iV⟩, iK, iL, iF, iB, iA, iW, iX⟩ := id hI
  have bN := iN
  unfold cNum at bN
  by_cases h13 : w = 13
  · subst h13
    obtain ⟨m1, a1, a2⟩ := asAt_ok (e := e) (d := d) (h := m 247 0) hI (hr _ _)
    have hI1 := AS_Inv hI a2
    have en := AS_n a2
    have X := AS_LX hI a2
    have hx : LXm (-1) (m1 247 0) (mile (m1 247) (-1) (m1 247 0)) m1 := by
      rw [en]
      unfold LX at X
      rw [en] at X
      exact X
    have xs := X_safe (e := e) (d := d) hx
    rw [en] at xs
    obtain ⟨m2, b1, b2⟩ := M_safeBy (e := e) (d := d) (v := -1) hI1.2.1 hI1.1 (RM.refl hI1) (o_of hI1) rfl (mil_um hI1)
    rw [en] at b1
    have sb := (sfS_b (N := m 247) (o := -1) (mi := mile (m 247) (-1) (m 247 0)) (by omega)).1
    generalize sfS (m 247) (-1) (mile (m 247) (-1) (m 247 0)) = S at *
    have bc1 := bitCount16 (e := e) (d := d + 5) (m := m1) (x := S) sb.1 sb.2
    have bc2 := (M_bits16 (e := e) (d := d + 14) (m := m2) (x := S) sb.1 sb.2).1
    refine ⟨bc S, m1, m2, ?_, ?_, Inv_ref hI1 b2⟩
    · simp (disch := first | omega | (simp (disch := first | decide | omega) only [um_k, um_e, um_i, uz_k]; omega) | exact cat_i | exact cat_u | exact cat_r | assumption | exact rfl) only [b_191_0, b_191_150, b_191_204, b_191_207, b_32_0, b_32_11, b_32_15, bN.1.1, a1, xs, bc1, wr_of, ↓reduceIte, ck_T, lt_T, lt_F, le_T, le_F, eq_T, eq_F, and_true, true_and, and_false, false_and, or_true, true_or, or_false, false_or, and_self, or_self, not_true_eq_false, not_false_eq_true, implies_true, forall_const, true_implies, false_implies, ri_k, rn_k, rr_k, wr_bi, bi_e0, bi_e1, bi_T, bi_F, Classical.not_not, itp, itn, ck_t]
    · simp (disch := first | omega | (simp (disch := first | decide | omega) only [um_k, um_e, um_i, uz_k]; omega) | exact cat_i | exact cat_u | exact cat_r | assumption | exact rfl) only [b_318_0, b_318_160, b_318_163, b1, bc2, wr_of, ↓reduceIte, ck_T, lt_T, lt_F, le_T, le_F, eq_T, eq_F, and_true, true_and, and_false, false_and, or_true, true_or, or_false, false_or, and_self, or_self, not_true_eq_false, not_false_eq_true, implies_true, forall_const, true_implies, false_implies, ri_k, rn_k, rr_k, wr_bi, bi_e0, bi_e1, bi_T, bi_F, Classical.not_not, itp, itn, ck_t]
  · by_cases h7 : w = 7
    · subst h7
      have r1 := W_runners (e := e) (d := d + 4) hr iN iP
      have r2 := M_runners (e := e) (d := d + 14) (u1 := .int (iI 7)) cat_i hr (by omega : 0 ≤ m 247 1 ∧ m 247 1 ≤ 16)
      refine Both.same hI (rnr (m 247)) ?_ ?_
      · simp (disch := first | omega | (simp (disch := first | decide | omega) only [um_k, um_e, um_i, uz_k]; omega) | exact cat_i | exact cat_u | exact cat_r | assumption | exact rfl) only [b_191_0, b_191_150, b_191_204, b_191_207, r1, wr_of, ↓reduceIte, ck_T, lt_T, lt_F, le_T, le_F, eq_T, eq_F, and_true, true_and, and_false, false_and, or_true, true_or, or_false, false_or, and_self, or_self, not_true_eq_false, not_false_eq_true, implies_true, forall_const, true_implies, false_implies, ri_k, rn_k, rr_k, wr_bi, bi_e0, bi_e1, bi_T, bi_F, Classical.not_not, itp, itn, ck_t]
      · simp (disch := first | omega | (simp (disch := first | decide | omega) only [um_k, um_e, um_i, uz_k]; omega) | exact cat_i | exact cat_u | exact cat_r | assumption | exact rfl) only [b_318_0, r2, wr_of, ↓reduceIte, ck_T, lt_T, lt_F, le_T, le_F, eq_T, eq_F, and_true, true_and, and_false, false_and, or_true, true_or, or_false, false_or, and_self, or_self, not_true_eq_false, not_false_eq_true, implies_true, forall_const, true_implies, false_implies, ri_k, rn_k, rr_k, wr_bi, bi_e0, bi_e1, bi_T, bi_F, Classical.not_not, itp, itn, ck_t]
    · have hn : m 1 0 = m 247 0 ∧ m 4 3 = m 247 1 ∧ m 6 3 = m 247 2 ∧ m 1 2 = m 247 3 ∧ m 8 3 = m 247 4 ∧ m 12 3 = m 247 5 ∧ m 14 3 = m 247 6 ∧ m 1 1 = m 247 7 ∧ m 16 3 = m 247 8 := by omega
      obtain ⟨n0, n1, n2, n3, n4, n5, n6, n7, n8⟩ := hn
      have nr : m 230 3 = m 246 7 := iW.1.1
      have nt : m 179 1 = m 246 4 := iA.1
      have nh : m 234 8 = m 246 35 := iX.2.1.1
      by_cases hx : 0 ≤ w ∧ w ≤ 12
      · have hc : w = 0 ∨ w = 1 ∨ w = 2 ∨ w = 3 ∨ w = 4 ∨ w = 5 ∨ w = 6 ∨ w = 8 ∨ w = 9 ∨ w = 10 ∨ w = 11 ∨ w = 12 := by omega
        rcases hc with z | z | z | z | z | z | z | z | z | z | z | z <;> subst z
        · refine Both.same hI (m 247 0) ?_ ?_ <;> simp (disch := first | omega | (simp (disch := first | decide | omega) only [um_k, um_e, um_i, uz_k]; omega) | exact cat_i | exact cat_u | exact cat_r | assumption | exact rfl) only [b_191_0, b_318_0, n0, wr_of, ↓reduceIte, ck_T, lt_T, lt_F, le_T, le_F, eq_T, eq_F, and_true, true_and, and_false, false_and, or_true, true_or, or_false, false_or, and_self, or_self, not_true_eq_false, not_false_eq_true, implies_true, forall_const, true_implies, false_implies, ri_k, rn_k, rr_k, wr_bi, bi_e0, bi_e1, bi_T, bi_F, Classical.not_not, itp, itn, ck_t]
        · refine Both.same hI (m 247 1) ?_ ?_ <;> simp (disch := first | omega | (simp (disch := first | decide | omega) only [um_k, um_e, um_i, uz_k]; omega) | exact cat_i | exact cat_u | exact cat_r | assumption | exact rfl) only [b_191_0, b_318_0, n1, wr_of, ↓reduceIte, ck_T, lt_T, lt_F, le_T, le_F, eq_T, eq_F, and_true, true_and, and_false, false_and, or_true, true_or, or_false, false_or, and_self, or_self, not_true_eq_false, not_false_eq_true, implies_true, forall_const, true_implies, false_implies, ri_k, rn_k, rr_k, wr_bi, bi_e0, bi_e1, bi_T, bi_F, Classical.not_not, itp, itn, ck_t]
        · refine Both.same hI (m 247 2) ?_ ?_ <;> simp (disch := first | omega | (simp (disch := first | decide | omega) only [um_k, um_e, um_i, uz_k]; omega) | exact cat_i | exact cat_u | exact cat_r | assumption | exact rfl) only [b_191_0, b_318_0, n2, wr_of, ↓reduceIte, ck_T, lt_T, lt_F, le_T, le_F, eq_T, eq_F, and_true, true_and, and_false, false_and, or_true, true_or, or_false, false_or, and_self, or_self, not_true_eq_false, not_false_eq_true, implies_true, forall_const, true_implies, false_implies, ri_k, rn_k, rr_k, wr_bi, bi_e0, bi_e1, bi_T, bi_F, Classical.not_not, itp, itn, ck_t]
        · refine Both.same hI (m 247 3) ?_ ?_ <;> simp (disch := first | omega | (simp (disch := first | decide | omega) only [um_k, um_e, um_i, uz_k]; omega) | exact cat_i | exact cat_u | exact cat_r | assumption | exact rfl) only [b_191_0, b_318_0, n3, wr_of, ↓reduceIte, ck_T, lt_T, lt_F, le_T, le_F, eq_T, eq_F, and_true, true_and, and_false, false_and, or_true, true_or, or_false, false_or, and_self, or_self, not_true_eq_false, not_false_eq_true, implies_true, forall_const, true_implies, false_implies, ri_k, rn_k, rr_k, wr_bi, bi_e0, bi_e1, bi_T, bi_F, Classical.not_not, itp, itn, ck_t]
        · refine Both.same hI (m 247 4) ?_ ?_ <;> simp (disch := first | omega | (simp (disch := first | decide | omega) only [um_k, um_e, um_i, uz_k]; omega) | exact cat_i | exact cat_u | exact cat_r | assumption | exact rfl) only [b_191_0, b_318_0, n4, wr_of, ↓reduceIte, ck_T, lt_T, lt_F, le_T, le_F, eq_T, eq_F, and_true, true_and, and_false, false_and, or_true, true_or, or_false, false_or, and_self, or_self, not_true_eq_false, not_false_eq_true, implies_true, forall_const, true_implies, false_implies, ri_k, rn_k, rr_k, wr_bi, bi_e0, bi_e1, bi_T, bi_F, Classical.not_not, itp, itn, ck_t]
        · refine Both.same hI (m 247 5) ?_ ?_ <;> simp (disch := first | omega | (simp (disch := first | decide | omega) only [um_k, um_e, um_i, uz_k]; omega) | exact cat_i | exact cat_u | exact cat_r | assumption | exact rfl) only [b_191_0, b_318_0, n5, wr_of, ↓reduceIte, ck_T, lt_T, lt_F, le_T, le_F, eq_T, eq_F, and_true, true_and, and_false, false_and, or_true, true_or, or_false, false_or, and_self, or_self, not_true_eq_false, not_false_eq_true, implies_true, forall_const, true_implies, false_implies, ri_k, rn_k, rr_k, wr_bi, bi_e0, bi_e1, bi_T, bi_F, Classical.not_not, itp, itn, ck_t]
        · refine Both.same hI (m 247 6) ?_ ?_ <;> simp (disch := first | omega | (simp (disch := first | decide | omega) only [um_k, um_e, um_i, uz_k]; omega) | exact cat_i | exact cat_u | exact cat_r | assumption | exact rfl) only [b_191_0, b_318_0, n6, wr_of, ↓reduceIte, ck_T, lt_T, lt_F, le_T, le_F, eq_T, eq_F, and_true, true_and, and_false, false_and, or_true, true_or, or_false, false_or, and_self, or_self, not_true_eq_false, not_false_eq_true, implies_true, forall_const, true_implies, false_implies, ri_k, rn_k, rr_k, wr_bi, bi_e0, bi_e1, bi_T, bi_F, Classical.not_not, itp, itn, ck_t]
        · refine Both.same hI (m 247 7) ?_ ?_ <;> simp (disch := first | omega | (simp (disch := first | decide | omega) only [um_k, um_e, um_i, uz_k]; omega) | exact cat_i | exact cat_u | exact cat_r | assumption | exact rfl) only [b_191_0, b_318_0, n7, wr_of, ↓reduceIte, ck_T, lt_T, lt_F, le_T, le_F, eq_T, eq_F, and_true, true_and, and_false, false_and, or_true, true_or, or_false, false_or, and_self, or_self, not_true_eq_false, not_false_eq_true, implies_true, forall_const, true_implies, false_implies, ri_k, rn_k, rr_k, wr_bi, bi_e0, bi_e1, bi_T, bi_F, Classical.not_not, itp, itn, ck_t]
        · refine Both.same hI (m 247 8) ?_ ?_ <;> simp (disch := first | omega | (simp (disch := first | decide | omega) only [um_k, um_e, um_i, uz_k]; omega) | exact cat_i | exact cat_u | exact cat_r | assumption | exact rfl) only [b_191_0, b_318_0, n8, wr_of, ↓reduceIte, ck_T, lt_T, lt_F, le_T, le_F, eq_T, eq_F, and_true, true_and, and_false, false_and, or_true, true_or, or_false, false_or, and_self, or_self, not_true_eq_false, not_false_eq_true, implies_true, forall_const, true_implies, false_implies, ri_k, rn_k, rr_k, wr_bi, bi_e0, bi_e1, bi_T, bi_F, Classical.not_not, itp, itn, ck_t]
        · refine Both.same hI (m 246 7) ?_ ?_ <;> simp (disch := first | omega | (simp (disch := first | decide | omega) only [um_k, um_e, um_i, uz_k]; omega) | exact cat_i | exact cat_u | exact cat_r | assumption | exact rfl) only [b_191_0, b_318_0, nr, wr_of, ↓reduceIte, ck_T, lt_T, lt_F, le_T, le_F, eq_T, eq_F, and_true, true_and, and_false, false_and, or_true, true_or, or_false, false_or, and_self, or_self, not_true_eq_false, not_false_eq_true, implies_true, forall_const, true_implies, false_implies, ri_k, rn_k, rr_k, wr_bi, bi_e0, bi_e1, bi_T, bi_F, Classical.not_not, itp, itn, ck_t]
        · refine Both.same hI (m 246 4) ?_ ?_ <;> simp (disch := first | omega | (simp (disch := first | decide | omega) only [um_k, um_e, um_i, uz_k]; omega) | exact cat_i | exact cat_u | exact cat_r | assumption | exact rfl) only [b_191_0, b_318_0, nt, wr_of, ↓reduceIte, ck_T, lt_T, lt_F, le_T, le_F, eq_T, eq_F, and_true, true_and, and_false, false_and, or_true, true_or, or_false, false_or, and_self, or_self, not_true_eq_false, not_false_eq_true, implies_true, forall_const, true_implies, false_implies, ri_k, rn_k, rr_k, wr_bi, bi_e0, bi_e1, bi_T, bi_F, Classical.not_not, itp, itn, ck_t]
        · refine Both.same hI (m 246 35) ?_ ?_ <;> simp (disch := first | omega | (simp (disch := first | decide | omega) only [um_k, um_e, um_i, uz_k]; omega) | exact cat_i | exact cat_u | exact cat_r | assumption | exact rfl) only [b_191_0, b_318_0, nh, wr_of, ↓reduceIte, ck_T, lt_T, lt_F, le_T, le_F, eq_T, eq_F, and_true, true_and, and_false, false_and, or_true, true_or, or_false, false_or, and_self, or_self, not_true_eq_false, not_false_eq_true, implies_true, forall_const, true_implies, false_implies, ri_k, rn_k, rr_k, wr_bi, bi_e0, bi_e1, bi_T, bi_F, Classical.not_not, itp, itn, ck_t]
      · refine Both.same hI (-1) ?_ ?_ <;> simp (disch := first | omega | (simp (disch := first | decide | omega) only [um_k, um_e, um_i, uz_k]; omega) | exact cat_i | exact cat_u | exact cat_r | assumption | exact rfl) only [b_191_0, b_318_0, hw, wr_of, ↓reduceIte, ck_T, lt_T, lt_F, le_T, le_F, eq_T, eq_F, and_true, true_and, and_false, false_and, or_true, true_or, or_false, false_or, and_self, or_self, not_true_eq_false, not_false_eq_true, implies_true, forall_const, true_implies, false_implies, ri_k, rn_k, rr_k, wr_bi, bi_e0, bi_e1, bi_T, bi_F, Classical.not_not, itp, itn, ck_t]
/-- the class, one version alone -/
theorem L_under {v : Int} (hC : Core m (m 247)) (hr : Rng m) (hw : ∀ s, 0 ≤ s → s < m 247 2 → isWay (wall (m 247)) (m 247 (254 + 2 * s)) (m (196 + s.toNat))) (v0 : 0 ≤ v) (v1 : v < m 247 3) : ∃ m', Z e (d + 5) 39 0 [.ref 202, .int (iI v)] [] m = ri (sfS (m 247) v (mile (m 247) v (m 247 0))) m' ∧ (∀ k, ¬ (202 ≤ k ∧ k ≤ 205) → m' k = m k) ∧ m' 202 2 = m 202 2 ∧ Rng m' := by
  have hC0 := hC
  obtain ⟨iN, iG, iP, iH, iS, iD, iT, iO, iU, iR, iV⟩ := hC
  have bN := iN
  unfold cNum at bN
  have wv : wr v = v := wr_of (by omega) (by omega)
  have u : ∀ k, ¬ k = 202 → um m 202 3 v k = m k := fun k z => um_r z
  have u247 := u 247 (by decide)
  have cor : ∀ m1 : zMm, (∀ k, ¬ (202 ≤ k ∧ k ≤ 205) → m1 k = m k) → Core m1 (m1 247) := fun m1 f => by
    have f247 := f 247 (by omega)
    rw [f247]
    exact Core_cg (fun k _ _ => f k (by omega)) (fun _ _ _ => rfl) hC0
  have c0 := cor (um m 202 3 v) (fun k z => u k (by omega))
  have ea : um m 202 3 v 202 3 = v := um_s
  have eo : oA v = v := if_neg (by omega)
  obtain ⟨m1, a1, a2, a3, a4, a5⟩ := learn_ok (e := e) (d := d + 1) (m := um m 202 3 v) (o := v) (hr.um wv) c0.1 c0.2.2.2.2.1 c0.2.2.2.2.2.1 c0.2.2.2.2.2.2.2.2.2.2 (by rw [u247]; intro s s0 s1; rw [u (196 + s.toNat) (by omega)]; exact hw s s0 s1) (by rw [ea, u247]; exact Or.inr ⟨v0, v1⟩) (by rw [ea]; exact eo)
  rw [u247] at a4
  have f1 : ∀ k, ¬ (202 ≤ k ∧ k ≤ 205) → m1 k = m k := fun k z => by rw [a2 k z]; exact u k (by omega)
  have c1 := cor m1 f1
  have f247 := f1 247 (by omega)
  have e13 : m1 202 3 = v := by rw [a3 3 (by decide)]; exact ea
  obtain ⟨m2, b1, b2⟩ := gather_ok (e := e) (d := d + 3) (m := m1) (h := m 247 0) a5 c1.1 c1.2.2.2.2.2.2.2.2.2.2 (hr _ _) (by rw [e13, f247]; exact Or.inr ⟨v0, v1⟩)
  rw [e13, eo] at b2
  have hB := vB_of iN iV
  have ga : Gat (m 247) v (m 247 0) m2 := by
    have := GA_Gat (m0 := m1) (by rw [f247]; exact hB) b2
    rw [f247] at this
    exact this
  have r2 : Rng m2 := b2.2.2.2.2.2.2.2
  have f2 : ∀ k, ¬ (202 ≤ k ∧ k ≤ 205) → m2 k = m k := fun k z => by rw [b2.1 k (by omega) (by omega)]; exact f1 k z
  have g247 := f2 247 (by omega)
  have lw2 : LW (m 247) v m2 := by
    refine ⟨fun s s0 s1 => by rw [b2.1 (196 + s.toNat) (by omega) (by omega)]; exact a4.1 s s0 s1, fun q q0 q1 => ?_⟩
    rw [b2.1 204 (by decide) (by decide), b2.1 205 (by decide) (by decide)]
    exact a4.2 q q0 q1
  have X : LXm v (m2 247 0) (mile (m2 247) v (m2 247 0)) m2 := by
    rw [g247]
    exact ⟨cor m2 f2, r2, by rw [g247]; exact lw2, by rw [g247]; exact ga⟩
  have xs := X_safe (e := e) (d := d) X
  rw [g247] at xs
  have e1 : m1 1 0 = m 247 0 := by rw [f1 1 (by omega)]; exact bN.1.1
  refine ⟨m2, ?_, f2, ?_, r2⟩
  · rw [b_39_0, a1, rn_k, b_39_9, e1, b1, rn_k, b_39_20, xs, ri_k, b_39_24]
  · rw [b2.2.1 2 (by decide), a3 2 (by decide), um_i (by decide)]
theorem call_narrow {v w : Int} (hI : Inv m) (hv : wr v = v) (hw : wr w = w) : Both (Z e (d + 7) 181 0 [.ref 0, .int (iI (v)), .int (iI (w))] []) (Z e (d + 15) 298 0 [.ref 246, .int (iI (v)), .int (iI (w))] []) m := by
  obtain ⟨hr, ⟨iN, iG, iP, iH, iS, iD, iT, iO, iU, iR, iV⟩, iK, iL, iF, iB, iA, iW, iX⟩ := id hI
  have bN := iN
  unfold cNum at bN
  by_cases h1 : 0 ≤ v ∧ v < m 247 3 ∧ 0 ≤ w ∧ w < m 247 3
  · obtain ⟨v0, v1, w0, w1⟩ := h1
    obtain ⟨m1, a1, a2⟩ := asAt_ok (e := e) (d := d + 1) (h := m 247 0) hI (hr _ _)
    have hI1 := AS_Inv hI a2
    have en := AS_n a2
    have X := AS_LX hI a2
    have lw1 := X.2.2.1
    obtain ⟨m2, b1, b2, b3, b4⟩ := L_under (e := e) (d := d) (v := v) hI1.2.1 hI1.1 lw1.1 v0 (by rw [en]; exact v1)
    have n2 : m2 247 = m 247 := by rw [b2 247 (by omega)]; exact en
    have c2 : Core m2 (m2 247) := by
      rw [b2 247 (by omega)]
      exact Core_cg (fun k _ _ => b2 k (by omega)) (fun _ _ _ => rfl) hI1.2.1
    obtain ⟨m3, d1, d2, d3, d4⟩ := L_under (e := e) (d := d) (m := m2) (v := w) c2 b4 (by rw [n2]; intro s s0 s1; rw [b2 (196 + s.toNat) (by omega)]; rw [en] at lw1; exact lw1.1 s s0 s1) w0 (by rw [n2]; exact w1)
    have u : ∀ k, ¬ k = 202 → um m3 202 3 (-3) k = m3 k := fun k z => um_r z
    have f3 : ∀ k, ¬ (202 ≤ k ∧ k ≤ 205) → um m3 202 3 (-3) k = m1 k := fun k z => by rw [u k (by omega), d2 k z]; exact b2 k z
    have n3 : um m3 202 3 (-3) 247 = m 247 := by rw [f3 247 (by omega)]; exact en
    have c3 : Core (um m3 202 3 (-3)) (um m3 202 3 (-3) 247) := by
      rw [f3 247 (by omega)]
      exact Core_cg (fun k _ _ => f3 k (by omega)) (fun _ _ _ => rfl) hI1.2.1
    obtain ⟨m4, g1, g2, g3, g4, g5⟩ := learn_ok (e := e) (d := d + 2) (m := um m3 202 3 (-3)) (o := -1) (d4.um rfl) c3.1 c3.2.2.2.2.1 c3.2.2.2.2.2.1 c3.2.2.2.2.2.2.2.2.2.2 (by rw [n3]; intro s s0 s1; rw [f3 (196 + s.toNat) (by omega)]; rw [en] at lw1; exact lw1.1 s s0 s1) (Or.inl um_s) (by rw [um_s]; rfl)
    rw [n3] at g4
    have f4 : ∀ k, ¬ (202 ≤ k ∧ k ≤ 205) → m4 k = m1 k := fun k z => by rw [g2 k z]; exact f3 k z
    have n4 : m4 247 = m 247 := by rw [f4 247 (by omega)]; exact en
    have hI4 : Inv m4 := by
      refine Inv_law hI1 g5 (fun k z => f4 k (by unfold lwk at z; omega)) ⟨by rw [g3 3 (by decide)]; exact um_s, Or.inr ⟨?_, ?_⟩⟩
      · rw [g3 2 (by decide), um_i (by decide), d3, b3]
        exact a2.2.2.2.1
      · rw [n4]
        exact (LawC_iff (sB_of iN iS) (vB_of iN iV) (by omega) iD).mpr g4
    obtain ⟨m5, p1, p2⟩ := M_safeBy (e := e) (d := d) (v := v) hI4.2.1 hI4.1 (RM.refl hI4) (o_of hI4) hv (mil_um hI4)
    obtain ⟨m6, q1, q2⟩ := M_safeBy (e := e) (d := d) (v := w) hI4.2.1 hI4.1 p2 (o_of hI4) hw (mil_um hI4)
    rw [en] at b1
    rw [n2] at d1
    rw [n4] at p1 q1
    have nn : m4 247 3 = m 247 3 := by rw [n4]
    refine ⟨jand (sfS (m 247) v (mile (m 247) v (m 247 0))) (jxor (sfS (m 247) w (mile (m 247) w (m 247 0))) (-1)), m4, m6, ?_, ?_, Inv_ref hI4 q2⟩
    · have e1 : m 1 2 = m 247 3 := bN.2.2.2.1.1
      have w3 : wr (m 247 3) = m 247 3 := hr _ _
      rw [b_181_0, hv, hw, e1, w3, itn (by omega), b_38_0, bN.1.1, a1, rn_k, b_38_11, b1, ri_k, b_38_16, d1, ri_k, b_38_21 cat_i, g1, rn_k, b_38_35, ri_k, b_181_41]
    · simp (disch := first | omega | (simp (disch := first | decide | omega) only [um_k, um_e, um_i, uz_k]; omega) | exact cat_i | exact cat_u | exact cat_r | assumption | exact rfl) only [b_298_0, hv, hw, nn, p1, b_298_39, q1, b_298_44, wr_of, ↓reduceIte, ck_T, lt_T, lt_F, le_T, le_F, eq_T, eq_F, and_true, true_and, and_false, false_and, or_true, true_or, or_false, false_or, and_self, or_self, not_true_eq_false, not_false_eq_true, implies_true, forall_const, true_implies, false_implies, ri_k, rn_k, rr_k, wr_bi, bi_e0, bi_e1, bi_T, bi_F, Classical.not_not, itp, itn, ck_t]
  · refine Both.same hI (-1) ?_ ?_
    · simp (disch := first | omega | (simp (disch := first | decide | omega) only [um_k, um_e, um_i, uz_k]; omega) | exact cat_i | exact cat_u | exact cat_r | assumption | exact rfl) only [b_181_0, hv, hw, hr _ _, wr_of, ↓reduceIte, ck_T, lt_T, lt_F, le_T, le_F, eq_T, eq_F, and_true, true_and, and_false, false_and, or_true, true_or, or_false, false_or, and_self, or_self, not_true_eq_false, not_false_eq_true, implies_true, forall_const, true_implies, false_implies, ri_k, rn_k, rr_k, wr_bi, bi_e0, bi_e1, bi_T, bi_F, Classical.not_not, itp, itn, ck_t]
    · simp (disch := first | omega | (simp (disch := first | decide | omega) only [um_k, um_e, um_i, uz_k]; omega) | exact cat_i | exact cat_u | exact cat_r | assumption | exact rfl) only [b_298_0, hv, hw, hr _ _, wr_of, ↓reduceIte, ck_T, lt_T, lt_F, le_T, le_F, eq_T, eq_F, and_true, true_and, and_false, false_and, or_true, true_or, or_false, false_or, and_self, or_self, not_true_eq_false, not_false_eq_true, implies_true, forall_const, true_implies, false_implies, ri_k, rn_k, rr_k, wr_bi, bi_e0, bi_e1, bi_T, bi_F, Classical.not_not, itp, itn, ck_t]
end MN
