/-! Table. -/
section TB
variable {e : List Int32 × Value} {d : Nat} {m : zMm} {a ca w mx : Nat} {i j x : Int}
/-- a table that is small, and how many rows it has -/
def tOk (m : zMm) (a w mx : Nat) : Prop := 0 ≤ m a 3 ∧ m a 3 ≤ mx ∧ (mx : Int) * w ≤ 1000 ∧ (mx : Int) ≤ 1000 ∧ (w : Int) ≤ 1000 ∧ 0 < (w : Int)
theorem T_has (hT : zTab a ca w mx) (ho : tOk m a w mx) (hi : wr i = i) : Z e d 102 0 [.ref a, .int (iI i)] [] m = ri (bi (0 ≤ i ∧ i < m a 3)) m := by
  obtain ⟨h1, h2, h3, h4, h5, h6⟩ := ho
  simp (disch := first | omega | (simp (disch := first | decide | omega) only [um_k, um_e, um_i, uz_k]; omega) | exact cat_i | exact cat_u | exact cat_r | assumption | exact rfl) only [b_102_0 hT, hi, wr_of, ↓reduceIte, ck_T, lt_T, lt_F, le_T, le_F, eq_T, eq_F, and_true, true_and, and_false, false_and, or_true, true_or, or_false, false_or, and_self, or_self, not_true_eq_false, not_false_eq_true, implies_true, forall_const, true_implies, false_implies, ri_k, rn_k, rr_k, wr_bi, bi_e0, bi_e1, bi_T, bi_F, Classical.not_not, itp, itn, ck_t]
  rw [bi_if]
theorem T_get (hT : zTab a ca w mx) (ho : tOk m a w mx) (h0 : 0 ≤ i) (hn : i < m a 3) (hj : 0 ≤ j) (hw : j < w) : Z e d 104 0 [.ref a, .int (iI i), .int (iI j)] [] m = ri (m ca (i * w + j)) m := by
  obtain ⟨h1, h2, h3, h4, h5, h6⟩ := ho
  have hb := mulb (n := mx) h0 (by omega) hj hw
  have hc : ((mx * w : Nat) : Int) = (mx : Int) * w := by simp
  simp (disch := first | omega | (simp (disch := first | decide | omega) only [um_k, um_e, um_i, uz_k]; omega) | exact cat_i | exact cat_u | exact cat_r | assumption | exact rfl) only [b_104_0 hT, hc, wr_of, ↓reduceIte, ck_T, lt_T, lt_F, le_T, le_F, eq_T, eq_F, and_true, true_and, and_false, false_and, or_true, true_or, or_false, false_or, and_self, or_self, not_true_eq_false, not_false_eq_true, implies_true, forall_const, true_implies, false_implies, ri_k, rn_k, rr_k, wr_bi, bi_e0, bi_e1, bi_T, bi_F, Classical.not_not, itp, itn, ck_t]
theorem T_set (hT : zTab a ca w mx) (ho : tOk m a w mx) (h0 : 0 ≤ i) (hn : i < m a 3) (hj : 0 ≤ j) (hw : j < w) : Z e d 105 0 [.ref a, .int (iI i), .int (iI j), .int (iI x)] [] m = rn (um m ca (i * w + j) x) := by
  obtain ⟨h1, h2, h3, h4, h5, h6⟩ := ho
  have hb := mulb (n := mx) h0 (by omega) hj hw
  have hc : ((mx * w : Nat) : Int) = (mx : Int) * w := by simp
  simp (disch := first | omega | (simp (disch := first | decide | omega) only [um_k, um_e, um_i, uz_k]; omega) | exact cat_i | exact cat_u | exact cat_r | assumption | exact rfl) only [b_105_0 hT, hc, wr_of, ↓reduceIte, ck_T, lt_T, lt_F, le_T, le_F, eq_T, eq_F, and_true, true_and, and_false, false_and, or_true, true_or, or_false, false_or, and_self, or_self, not_true_eq_false, not_false_eq_true, implies_true, forall_const, true_implies, false_implies, ri_k, rn_k, rr_k, wr_bi, bi_e0, bi_e1, bi_T, bi_F, Classical.not_not, itp, itn, ck_t]
/-- zeros -/
def uz (m : zMm) (k : Nat) (b n : Int) : zMm := fun k' i => if k' = k ∧ b ≤ i ∧ i < b + n then 0 else m k' i
theorem uz_0 {k : Nat} {b : Int} : uz m k b 0 = m := by
  funext k' i
  unfold uz
  rw [if_neg]
  omega
theorem uz_succ {k : Nat} {b q : Int} (hq : 0 ≤ q) : um (uz m k b q) k (b + q) 0 = uz m k b (q + 1) := by
  funext k' i
  unfold uz um
  by_cases h1 : k' = k
  · by_cases h2 : i = b + q
    · simp [h1, h2]; omega
    · by_cases h3 : b ≤ i ∧ i < b + q
      · simp [h1, h2, h3]; omega
      · simp only [h1, h2, h3, and_false, if_false, true_and]
        rw [if_neg]; omega
  · simp [h1]
theorem uz_k {k k' : Nat} {b q i : Int} (h : ¬ k' = k) : uz m k b q k' i = m k' i := if_neg (fun e => h e.1)
theorem uz_i {k k' : Nat} {b q i : Int} (h : i < b ∨ b + q ≤ i) : uz m k b q k' i = m k' i := if_neg (fun e => by omega)
theorem uz_in {k : Nat} {b q i : Int} (h : b ≤ i) (h2 : i < b + q) : uz m k b q k i = 0 := if_pos ⟨rfl, h, h2⟩
theorem uz_r {k k' : Nat} {b q : Int} (h : ¬ k' = k) : uz m k b q k' = m k' := funext fun _ => uz_k h
theorem Rng.uz {k : Nat} {b q : Int} (h : Rng m) : Rng (uz m k b q) := by
  intro k' i'
  unfold Jvm.Pilot.CPeaceRingLaw_law_r3750_532f90.uz
  split
  · rfl
  · exact h k' i'
theorem T_add (hT : zTab a ca w mx) (hne : ¬ a = ca) (ho : tOk m a w mx) (hn : m a 3 < mx) : Z e d 106 0 [.ref a, .retAddr 0] [] m = ri (m a 3) (um (uz m ca (m a 3 * w) w) a 3 (m a 3 + 1)) := by
  obtain ⟨h1, h2, h3, h4, h5, h6⟩ := ho
  have hc : ((mx * w : Nat) : Int) = (mx : Int) * w := by simp
  have e3 : ∀ q, uz m ca (m a 3 * w) q a 3 = m a 3 := fun q => uz_k hne
  have loop : ∀ (k : Nat) (q : Int), q + k = w → 0 ≤ q → Z e d 106 16 [.ref a, .int (iI q)] [] (uz m ca (m a 3 * w) q) = ri (m a 3) (um (uz m ca (m a 3 * w) w) a 3 (m a 3 + 1)) := by
    intro k
    induction k with
    | zero =>
      intro q hq h0
      have : q = w := by omega
      subst this
      rw [b_106_16 hT]
      simp (disch := first | omega | (simp (disch := first | decide | omega) only [um_k, um_e, um_i, uz_k]; omega) | exact cat_i | exact cat_u | exact cat_r | assumption | exact rfl) only [e3, um_e, wr_of, ↓reduceIte, ck_T, lt_T, lt_F, le_T, le_F, eq_T, eq_F, and_true, true_and, and_false, false_and, or_true, true_or, or_false, false_or, and_self, or_self, not_true_eq_false, not_false_eq_true, implies_true, forall_const, true_implies, false_implies, ri_k, rn_k, rr_k, wr_bi, bi_e0, bi_e1, bi_T, bi_F, Classical.not_not, itp, itn, ck_t]
      congr 1
      omega
    | succ k ih =>
      intro q hq h0
      have hb := mulb (i := m a 3) (n := mx) h1 hn h0 (show q < w by omega)
      rw [b_106_16 hT]
      simp (disch := first | omega | (simp (disch := first | decide | omega) only [um_k, um_e, um_i, uz_k]; omega) | exact cat_i | exact cat_u | exact cat_r | assumption | exact rfl) only [e3, hc, uz_succ, ih (q + 1) (by omega) (by omega), wr_of, ↓reduceIte, ck_T, lt_T, lt_F, le_T, le_F, eq_T, eq_F, and_true, true_and, and_false, false_and, or_true, true_or, or_false, false_or, and_self, or_self, not_true_eq_false, not_false_eq_true, implies_true, forall_const, true_implies, false_implies, ri_k, rn_k, rr_k, wr_bi, bi_e0, bi_e1, bi_T, bi_F, Classical.not_not, itp, itn, ck_t]
  have := loop w 0 (by omega) (by omega)
  rw [uz_0] at this
  simp (disch := first | omega | (simp (disch := first | decide | omega) only [um_k, um_e, um_i, uz_k]; omega) | exact cat_i | exact cat_u | exact cat_r | assumption | exact rfl) only [b_106_0 hT, this, wr_of, ↓reduceIte, ck_T, lt_T, lt_F, le_T, le_F, eq_T, eq_F, and_true, true_and, and_false, false_and, or_true, true_or, or_false, false_or, and_self, or_self, not_true_eq_false, not_false_eq_true, implies_true, forall_const, true_implies, false_implies, ri_k, rn_k, rr_k, wr_bi, bi_e0, bi_e1, bi_T, bi_F, Classical.not_not, itp, itn, ck_t]
theorem T_any (hT : zTab a ca w mx) (ho : tOk m a w mx) (hr : Rng m) (hx : wr x = x) : Z e d 107 0 [.ref a, .int (iI x), .retAddr 0] [] m = ri (bi (∃ i, 0 ≤ i ∧ i < m a 3 ∧ m ca (i * w + 0) = x)) m := by
  obtain ⟨h1, h2, h3, h4, h5, h6⟩ := ho
  have hc : ((mx * w : Nat) : Int) = (mx : Int) * w := by simp
  rw [b_107_0 hT]
  have key := lpE (F := fun j => Z e d 107 2 [.ref a, .int (iI x), .int (iI j)] [] m) (P := fun j => m ca (j * w + 0) = x) (n := m a 3) (A := fun _ => ri 1 m) (B := ri 0 m) (m a 3).toNat 0 (by omega)
    (by
      intro i g1 g2 g3
      have hb := mulb (i := i) (n := mx) g1 (by omega) (Int.le_refl 0) h6
      refine (b_107_2 hT).trans ?_
      simp (disch := first | omega | (simp (disch := first | decide | omega) only [um_k, um_e, um_i, uz_k]; omega) | exact cat_i | exact cat_u | exact cat_r | assumption | exact rfl) only [hc, hr _ _, hx, g3, wr_of, ↓reduceIte, ck_T, lt_T, lt_F, le_T, le_F, eq_T, eq_F, and_true, true_and, and_false, false_and, or_true, true_or, or_false, false_or, and_self, or_self, not_true_eq_false, not_false_eq_true, implies_true, forall_const, true_implies, false_implies, ri_k, rn_k, rr_k, wr_bi, bi_e0, bi_e1, bi_T, bi_F, Classical.not_not, itp, itn, ck_t])
    (by
      intro i g1 g2 g3
      have hb := mulb (i := i) (n := mx) g1 (by omega) (Int.le_refl 0) h6
      refine (b_107_2 hT).trans ?_
      simp (disch := first | omega | (simp (disch := first | decide | omega) only [um_k, um_e, um_i, uz_k]; omega) | exact cat_i | exact cat_u | exact cat_r | assumption | exact rfl) only [hc, hr _ _, hx, g3, wr_of, ↓reduceIte, ck_T, lt_T, lt_F, le_T, le_F, eq_T, eq_F, and_true, true_and, and_false, false_and, or_true, true_or, or_false, false_or, and_self, or_self, not_true_eq_false, not_false_eq_true, implies_true, forall_const, true_implies, false_implies, ri_k, rn_k, rr_k, wr_bi, bi_e0, bi_e1, bi_T, bi_F, Classical.not_not, itp, itn, ck_t])
    (by refine (b_107_2 hT).trans ?_; simp (disch := first | omega | (simp (disch := first | decide | omega) only [um_k, um_e, um_i, uz_k]; omega) | exact cat_i | exact cat_u | exact cat_r | assumption | exact rfl) only [wr_of, ↓reduceIte, ck_T, lt_T, lt_F, le_T, le_F, eq_T, eq_F, and_true, true_and, and_false, false_and, or_true, true_or, or_false, false_or, and_self, or_self, not_true_eq_false, not_false_eq_true, implies_true, forall_const, true_implies, false_implies, ri_k, rn_k, rr_k, wr_bi, bi_e0, bi_e1, bi_T, bi_F, Classical.not_not, itp, itn, ck_t])
  rcases key with ⟨i, g1, g2, g3, -, g5⟩ | ⟨g1, g2⟩
  · rw [bi_t ⟨i, g1, g2, g3⟩]
    exact g5
  · rw [bi_f (fun ⟨i, q1, q2, q3⟩ => g1 i q1 q2 q3)]
    exact g2
end TB
