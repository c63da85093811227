/-! How many bits; needs. -/
def bc (x : Int) : Int := itr (fun i y => y + jand (jshr x i) 1) 0 16 0
section BC
variable {e : List Int32 × Value} {d : Nat} {m : zMm}
theorem bit_b {x i : Int} (h0 : 0 ≤ x) (h1 : x < 2147483648) (h2 : 0 ≤ i) (h3 : i < 31) : 0 ≤ jand (jshr x i) 1 ∧ jand (jshr x i) 1 ≤ 1 := by
  rw [jbit h0 h1 h2 h3]
  by_cases t : tb x i
  · rw [bi_t t]; decide
  · rw [bi_f t]; decide
theorem M_bits {x : Int} (h0 : 0 ≤ x) (h1 : x < 256) : Z e d 207 0 [.int (iI x), .retAddr 0, .retAddr 0] [] m = ri (bc x) m ∧ 0 ≤ bc x ∧ bc x ≤ 16 := by
  have key := lpG (F := fun i y (_ : Unit) => Z e d 207 4 [.int (iI x), .int (iI y), .int (iI i)] [] m) (G := fun y => ri y m) (f := fun i y => y + jand (jshr x i) 1) (I := fun i y => 0 ≤ y ∧ y ≤ i) (n := 16) (by decide) 0 () (by decide)
    (by
      intro i y u g1 g2 gI
      have b := bit_b h0 (by omega) g1 (i := i) (by omega)
      refine ⟨⟨(), ?_⟩, by omega⟩
      refine (b_207_4).trans ?_
      simp (disch := first | omega | (simp (disch := first | decide | omega) only [um_k, um_e, um_i, uz_k]; omega) | exact cat_i | exact cat_u | exact cat_r | assumption | exact rfl) only [wr_of, ↓reduceIte, ck_T, lt_T, lt_F, le_T, le_F, eq_T, eq_F, and_true, true_and, and_false, false_and, or_true, true_or, or_false, false_or, and_self, or_self, not_true_eq_false, not_false_eq_true, implies_true, forall_const, true_implies, false_implies, ri_k, rn_k, rr_k, wr_bi, bi_e0, bi_e1, bi_T, bi_F, Classical.not_not, itp, itn, ck_t])
    (by
      intro y u gI
      refine (b_207_4).trans ?_
      simp (disch := first | omega | (simp (disch := first | decide | omega) only [um_k, um_e, um_i, uz_k]; omega) | exact cat_i | exact cat_u | exact cat_r | assumption | exact rfl) only [wr_of, ↓reduceIte, ck_T, lt_T, lt_F, le_T, le_F, eq_T, eq_F, and_true, true_and, and_false, false_and, or_true, true_or, or_false, false_or, and_self, or_self, not_true_eq_false, not_false_eq_true, implies_true, forall_const, true_implies, false_implies, ri_k, rn_k, rr_k, wr_bi, bi_e0, bi_e1, bi_T, bi_F, Classical.not_not, itp, itn, ck_t])
  refine ⟨?_, key.2⟩
  rw [b_207_0]
  exact key.1
theorem bitCount_ok {x : Int} (h0 : 0 ≤ x) (h1 : x < 256) : Z e d 321 0 [.int (iI x)] [] m = ri (bc x) m := by
  refine (b_321_0).trans (congrArg (fun z => ri z m) ?_)
  have hx : ∃ n : Fin 256, x = (n.val : Int) := ⟨⟨x.toNat, by omega⟩, by simp only; omega⟩
  obtain ⟨n, hn⟩ := hx
  subst hn
  clear h0 h1
  revert n
  decide +kernel
theorem bc_full : ∀ (n : Fin 9) (x : Fin 256), x.val < 2 ^ n.val → (bc (x.val : Int) ≤ n.val ∧ (bc (x.val : Int) = n.val → x.val + 1 = 2 ^ n.val)) := by decide +kernel
theorem meetsNeeds_ok {x t : Int} (hr : Rng m) (t0 : 0 ≤ t) (t1 : t ≤ 256) : Z e d 61 0 [.ref 206, .int (iI x), .int (iI t), .retAddr 0] [] m = ri (bi (∀ i, 0 ≤ i → i < t → ¬ jand (m 207 i) x = 0)) m := by
  have : ∀ (j : Nat) (k : Int), k + j = t → 0 ≤ k → (∀ i, 0 ≤ i → i < k → ¬ jand (m 207 i) x = 0) → Z e d 61 2 [.ref 206, .int (iI x), .int (iI t), .int (iI k)] [] m = ri (bi (∀ i, 0 ≤ i → i < t → ¬ jand (m 207 i) x = 0)) m := by
    intro j
    induction j with
    | zero =>
      intro k hk k0 h
      have : k = t := by omega
      subst this
      rw [bi_t h]
      refine (b_61_2).trans ?_
      simp (disch := first | omega | (simp (disch := first | decide | omega) only [um_k, um_e, um_i, uz_k]; omega) | exact cat_i | exact cat_u | exact cat_r | assumption | exact rfl) only [wr_of, ↓reduceIte, ck_T, lt_T, lt_F, le_T, le_F, eq_T, eq_F, and_true, true_and, and_false, false_and, or_true, true_or, or_false, false_or, and_self, or_self, not_true_eq_false, not_false_eq_true, implies_true, forall_const, true_implies, false_implies, ri_k, rn_k, rr_k, wr_bi, bi_e0, bi_e1, bi_T, bi_F, Classical.not_not, itp, itn, ck_t]
    | succ j ih =>
      intro k hk k0 h
      refine (b_61_2).trans ?_
      by_cases c : jand (m 207 k) x = 0
      · rw [bi_f (fun q => q k k0 (by omega) c)]
        simp (disch := first | omega | (simp (disch := first | decide | omega) only [um_k, um_e, um_i, uz_k]; omega) | exact cat_i | exact cat_u | exact cat_r | assumption | exact rfl) only [c, wr_of, ↓reduceIte, ck_T, lt_T, lt_F, le_T, le_F, eq_T, eq_F, and_true, true_and, and_false, false_and, or_true, true_or, or_false, false_or, and_self, or_self, not_true_eq_false, not_false_eq_true, implies_true, forall_const, true_implies, false_implies, ri_k, rn_k, rr_k, wr_bi, bi_e0, bi_e1, bi_T, bi_F, Classical.not_not, itp, itn, ck_t]
      · rw [← ih (k + 1) (by omega) (by omega) (fun i g0 g1 => by
          by_cases hi : i = k
          · rw [hi]; exact c
          · exact h i g0 (by omega))]
        have wj : wr (jand (m 207 k) x) = jand (m 207 k) x := wr_jand
        simp (disch := first | omega | (simp (disch := first | decide | omega) only [um_k, um_e, um_i, uz_k]; omega) | exact cat_i | exact cat_u | exact cat_r | assumption | exact rfl) only [wj, wr_of, ↓reduceIte, ck_T, lt_T, lt_F, le_T, le_F, eq_T, eq_F, and_true, true_and, and_false, false_and, or_true, true_or, or_false, false_or, and_self, or_self, not_true_eq_false, not_false_eq_true, implies_true, forall_const, true_implies, false_implies, ri_k, rn_k, rr_k, wr_bi, bi_e0, bi_e1, bi_T, bi_F, Classical.not_not, itp, itn, ck_t]
  rw [b_61_0]
  exact this t.toNat 0 (by omega) (by omega) (fun i g0 g1 => by omega)
theorem isNeeded_ok {x t : Int} (hr : Rng m) (hx : wr x = x) (t0 : 0 ≤ t) (t1 : t ≤ 256) : Z e d 60 0 [.ref 206, .int (iI x), .int (iI t), .retAddr 0] [] m = ri (bi (∃ i, 0 ≤ i ∧ i < t ∧ m 207 i = x)) m := by
  have : ∀ (j : Nat) (k : Int), k + j = t → 0 ≤ k → (∀ i, 0 ≤ i → i < k → ¬ m 207 i = x) → Z e d 60 2 [.ref 206, .int (iI x), .int (iI t), .int (iI k)] [] m = ri (bi (∃ i, 0 ≤ i ∧ i < t ∧ m 207 i = x)) m := by
    intro j
    induction j with
    | zero =>
      intro k hk k0 h
      have : k = t := by omega
      subst this
      rw [bi_f (fun ⟨i, g0, g1, g2⟩ => h i g0 g1 g2)]
      refine (b_60_2).trans ?_
      simp (disch := first | omega | (simp (disch := first | decide | omega) only [um_k, um_e, um_i, uz_k]; omega) | exact cat_i | exact cat_u | exact cat_r | assumption | exact rfl) only [wr_of, ↓reduceIte, ck_T, lt_T, lt_F, le_T, le_F, eq_T, eq_F, and_true, true_and, and_false, false_and, or_true, true_or, or_false, false_or, and_self, or_self, not_true_eq_false, not_false_eq_true, implies_true, forall_const, true_implies, false_implies, ri_k, rn_k, rr_k, wr_bi, bi_e0, bi_e1, bi_T, bi_F, Classical.not_not, itp, itn, ck_t]
    | succ j ih =>
      intro k hk k0 h
      refine (b_60_2).trans ?_
      by_cases c : m 207 k = x
      · rw [bi_t ⟨k, k0, by omega, c⟩]
        simp (disch := first | omega | (simp (disch := first | decide | omega) only [um_k, um_e, um_i, uz_k]; omega) | exact cat_i | exact cat_u | exact cat_r | assumption | exact rfl) only [hr _ _, hx, c, wr_of, ↓reduceIte, ck_T, lt_T, lt_F, le_T, le_F, eq_T, eq_F, and_true, true_and, and_false, false_and, or_true, true_or, or_false, false_or, and_self, or_self, not_true_eq_false, not_false_eq_true, implies_true, forall_const, true_implies, false_implies, ri_k, rn_k, rr_k, wr_bi, bi_e0, bi_e1, bi_T, bi_F, Classical.not_not, itp, itn, ck_t]
      · rw [← ih (k + 1) (by omega) (by omega) (fun i g0 g1 => by
          by_cases hi : i = k
          · rw [hi]; exact c
          · exact h i g0 (by omega))]
        simp (disch := first | omega | (simp (disch := first | decide | omega) only [um_k, um_e, um_i, uz_k]; omega) | exact cat_i | exact cat_u | exact cat_r | assumption | exact rfl) only [hr _ _, hx, c, wr_of, ↓reduceIte, ck_T, lt_T, lt_F, le_T, le_F, eq_T, eq_F, and_true, true_and, and_false, false_and, or_true, true_or, or_false, false_or, and_self, or_self, not_true_eq_false, not_false_eq_true, implies_true, forall_const, true_implies, false_implies, ri_k, rn_k, rr_k, wr_bi, bi_e0, bi_e1, bi_T, bi_F, Classical.not_not, itp, itn, ck_t]
  rw [b_60_0]
  exact this t.toNat 0 (by omega) (by omega) (fun i g0 g1 => by omega)
end BC
