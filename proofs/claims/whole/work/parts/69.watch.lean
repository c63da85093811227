/-! watch. -/
def meets (N : Int → Int) (x : Int) : Prop := ∀ s h, 0 ≤ s → s < N 2 → 0 ≤ h → h < 24 → seeS N (N (254 + 2 * s)) h = 0 ∨ ¬ jand (seeS N (N (254 + 2 * s)) h) x = 0
def lwI (N : Int → Int) (w : Int) (D : Int → Prop) : Prop := (0 ≤ w ∧ w < jshl 1 (N 6)) ∧ meets N w ∧ ∀ v, 0 ≤ v → v < jshl 1 (N 6) → D v → meets N v → bc w ≤ bc v ∧ (bc v = bc w → w ≤ v)
theorem lw_u {N : Int → Int} {w1 w2 : Int} (h1 : lwI N w1 (fun _ => True)) (h2 : lwI N w2 (fun _ => True)) : w1 = w2 := by
  have a := h1.2.2 w2 h2.1.1 h2.1.2 trivial h2.2.1
  have b := h2.2.2 w1 h1.1.1 h1.1.2 trivial h1.2.1
  have c : bc w1 = bc w2 := by omega
  have := a.2 c.symm
  have := b.2 c
  omega
theorem L_b {n : Int} (h0 : 0 ≤ n) (h1 : n ≤ 8) : 1 ≤ jshl 1 n ∧ jshl 1 n ≤ 256 ∧ bc (jshl 1 n - 1) = n := by
  have : n = 0 ∨ n = 1 ∨ n = 2 ∨ n = 3 ∨ n = 4 ∨ n = 5 ∨ n = 6 ∨ n = 7 ∨ n = 8 := by omega
  rcases this with q | q | q | q | q | q | q | q | q <;> subst q <;> decide +kernel
theorem L_f {n x : Int} (h0 : 0 ≤ n) (h1 : n ≤ 8) (g0 : 0 ≤ x) (g1 : x < jshl 1 n) (hb : bc x = n) : x = jshl 1 n - 1 := by
  have b := L_b h0 h1
  have f := (bc_full ⟨n.toNat, by omega⟩ ⟨x.toNat, by omega⟩)
  rw [jshl1_n h0 (by omega)] at *
  have e1 : ((x.toNat : Nat) : Int) = x := by omega
  have e2 : ((n.toNat : Nat) : Int) = n := by omega
  have e3 : ((2 ^ n.toNat : Nat) : Int) = (2 : Int) ^ n.toNat := by simp
  simp only [e1, e2] at f
  have f2 := (f (by omega)).2 hb
  omega
theorem meets_full {N : Int → Int} (b6 : 0 ≤ N 6 ∧ N 6 ≤ 8) : meets N (jshl 1 (N 6) - 1) := by
  intro s h s0 s1 h0 h1
  have sb := seeS_b (N := N) (c := N (254 + 2 * s)) (h := h) b6
  have lb := L_b b6.1 b6.2
  by_cases c : seeS N (N (254 + 2 * s)) h = 0
  · exact Or.inl c
  · right
    rw [jshl1_n b6.1 (by omega)] at *
    have e3 : ((2 ^ (N 6).toNat : Nat) : Int) = (2 : Int) ^ (N 6).toNat := by simp
    rw [jand_n sb.1 (by omega) (by omega) (by omega)]
    have e4 : ((2 : Int) ^ (N 6).toNat - 1).toNat = 2 ^ (N 6).toNat - 1 := by omega
    rw [e4, Nat.and_two_pow_sub_one_eq_mod, Nat.mod_eq_of_lt (by omega)]
    omega
theorem GN_meets {N : Int → Int} {q : Int → Int} {t x : Int} (g : GN N (N 2) 0 q t) : (∀ i, 0 ≤ i → i < t → ¬ jand (q i) x = 0) ↔ meets N x := by
  constructor
  · intro h s k s0 s1 k0 k1
    rcases g.2.2.2 s k s0 k0 k1 (Or.inl s1) with z | ⟨i, i0, i1, i2⟩
    · exact Or.inl z
    · exact Or.inr (by rw [← i2]; exact h i i0 i1)
  · intro h i i0 i1
    obtain ⟨s, k, ⟨s0, s1⟩, ⟨k0, k1⟩, e1, e2⟩ := (g.2.1 i i0 i1).2.2
    rw [← e1] at e2 ⊢
    exact (h s k s0 s1 k0 k1).elim (fun z => absurd z e2) id
section WA
variable {e : List Int32 × Value} {d : Nat} {m : zMm}
theorem lw_P {t : Int} {N : Int → Int} (hr : Rng m) (h14 : m 14 3 = N 6) (b6 : 0 ≤ N 6 ∧ N 6 ≤ 8) (hg : GN N (N 2) 0 (m 207) t) : ∀ (j : Nat) (k b : Int), k + j = jshl 1 (N 6) → 0 ≤ k → (b < k ∨ b = jshl 1 (N 6) - 1) → lwI N b (fun v => v < k) → ∃ w, Z e (d + 1) 58 34 [.ref 206, .int (iI t), .int (iI b), .int (iI (bc b)), .int (iI k)] [] m = ri w m ∧ lwI N w (fun _ => True) := by
  have lb := L_b b6.1 b6.2
  have t0 := hg.1
  have tl := hg.t_le
  intro j
  induction j with
  | zero =>
    intro k b hk k0 hb h
    refine ⟨b, ?_, h.1, h.2.1, fun v v0 v1 _ => h.2.2 v v0 v1 (by omega)⟩
    refine (b_58_34).trans ?_
    simp (disch := first | omega | (simp (disch := first | decide | omega) only [um_k, um_e, um_i, uz_k]; omega) | exact cat_i | exact cat_u | exact cat_r | assumption | exact rfl) only [h14, wr_of, ↓reduceIte, ck_T, lt_T, lt_F, le_T, le_F, eq_T, eq_F, and_true, true_and, and_false, false_and, or_true, true_or, or_false, false_or, and_self, or_self, not_true_eq_false, not_false_eq_true, implies_true, forall_const, true_implies, false_implies, ri_k, rn_k, rr_k, wr_bi, bi_e0, bi_e1, bi_T, bi_F, Classical.not_not, itp, itn, ck_t]
  | succ j ih =>
    intro k b hk k0 hb h
    have q1 := bitCount_ok (e := e) (d := d) (m := m) (x := k) k0 (by omega)
    have q2 := (M_bits (e := e) (d := d) (m := m) (x := k) k0 (by omega)).2
    have q3 := (M_bits (e := e) (d := d) (m := m) (x := b) h.1.1 (by omega)).2
    have q4 := meetsNeeds_ok (e := e) (d := d) (m := m) (x := k) (t := t) hr t0 (by omega)
    have q5 : ∀ P : Prop, (P ↔ meets N k) → bi P = bi (meets N k) := fun P hp => by
      by_cases z : P
      · rw [bi_t z, bi_t (hp.mp z)]
      · rw [bi_f z, bi_f (fun y => z (hp.mpr y))]
    rw [q5 _ (GN_meets hg)] at q4
    by_cases c1 : bc k < bc b
    · by_cases c2 : meets N k
      · rw [bi_t c2] at q4
        obtain ⟨w, w1, w2⟩ := ih (k + 1) k (by omega) (by omega) (Or.inl (by omega)) ⟨⟨k0, by omega⟩, c2, fun v v0 v1 v2 v3 => by
          by_cases hv : v = k
          · rw [hv]; exact ⟨Int.le_refl _, fun _ => Int.le_refl _⟩
          · have := h.2.2 v v0 v1 (by omega) v3
            exact ⟨by omega, fun z => by omega⟩⟩
        refine ⟨w, ?_, w2⟩
        rw [← w1]
        refine (b_58_34).trans ?_
        simp (disch := first | omega | (simp (disch := first | decide | omega) only [um_k, um_e, um_i, uz_k]; omega) | exact cat_i | exact cat_u | exact cat_r | assumption | exact rfl) only [h14, q1, b_58_56, q4, b_58_67, b_58_78, wr_of, ↓reduceIte, ck_T, lt_T, lt_F, le_T, le_F, eq_T, eq_F, and_true, true_and, and_false, false_and, or_true, true_or, or_false, false_or, and_self, or_self, not_true_eq_false, not_false_eq_true, implies_true, forall_const, true_implies, false_implies, ri_k, rn_k, rr_k, wr_bi, bi_e0, bi_e1, bi_T, bi_F, Classical.not_not, itp, itn, ck_t]
      · rw [bi_f c2] at q4
        obtain ⟨w, w1, w2⟩ := ih (k + 1) b (by omega) (by omega) (hb.imp (fun z => by omega) id) ⟨h.1, h.2.1, fun v v0 v1 v2 v3 => by
          by_cases hv : v = k
          · rw [hv] at v3; exact absurd v3 c2
          · exact h.2.2 v v0 v1 (by omega) v3⟩
        refine ⟨w, ?_, w2⟩
        rw [← w1]
        refine (b_58_34).trans ?_
        simp (disch := first | omega | (simp (disch := first | decide | omega) only [um_k, um_e, um_i, uz_k]; omega) | exact cat_i | exact cat_u | exact cat_r | assumption | exact rfl) only [h14, q1, b_58_56, q4, b_58_67, b_58_78, wr_of, ↓reduceIte, ck_T, lt_T, lt_F, le_T, le_F, eq_T, eq_F, and_true, true_and, and_false, false_and, or_true, true_or, or_false, false_or, and_self, or_self, not_true_eq_false, not_false_eq_true, implies_true, forall_const, true_implies, false_implies, ri_k, rn_k, rr_k, wr_bi, bi_e0, bi_e1, bi_T, bi_F, Classical.not_not, itp, itn, ck_t]
    · obtain ⟨w, w1, w2⟩ := ih (k + 1) b (by omega) (by omega) (hb.imp (fun z => by omega) id) ⟨h.1, h.2.1, fun v v0 v1 v2 v3 => by
        by_cases hv : v = k
        · rw [hv]
          refine ⟨by omega, fun z => ?_⟩
          rcases hb with y | y
          · omega
          · have := L_f b6.1 b6.2 k0 (by omega) (by rw [z, y]; exact lb.2.2)
            omega
        · exact h.2.2 v v0 v1 (by omega) v3⟩
      refine ⟨w, ?_, w2⟩
      rw [← w1]
      refine (b_58_34).trans ?_
      simp (disch := first | omega | (simp (disch := first | decide | omega) only [um_k, um_e, um_i, uz_k]; omega) | exact cat_i | exact cat_u | exact cat_r | assumption | exact rfl) only [h14, q1, b_58_56, wr_of, ↓reduceIte, ck_T, lt_T, lt_F, le_T, le_F, eq_T, eq_F, and_true, true_and, and_false, false_and, or_true, true_or, or_false, false_or, and_self, or_self, not_true_eq_false, not_false_eq_true, implies_true, forall_const, true_implies, false_implies, ri_k, rn_k, rr_k, wr_bi, bi_e0, bi_e1, bi_T, bi_F, Classical.not_not, itp, itn, ck_t]
theorem P_watch (hI : Inv m) : ∃ w m2, Z e (d + 5) 58 0 [.ref 206, .retAddr 0, .retAddr 0, .retAddr 0, .retAddr 0] [] m = ri w m2 ∧ lwI (m 247) w (fun _ => True) ∧ Rng m2 ∧ (∀ k', ¬ k' = 207 → m2 k' = m k') := by
  obtain ⟨hr, ⟨iN, iG, iP, iH, iS, iD, iT, iO, iU, iR, iV⟩, iK, iL, iF, iB, iA, iW, iX⟩ := id hI
  have bN := iN
  unfold cNum at bN
  have b6 : 0 ≤ m 247 6 ∧ m 247 6 ≤ 8 := bN.2.2.2.2.2.2.1.2
  have e14 : m 14 3 = m 247 6 := bN.2.2.2.2.2.2.1.1
  have lb := L_b b6.1 b6.2
  obtain ⟨t, m2, a1, a2, a3, a4⟩ := gatherNeeds_ok (e := e) (d := d) hI
  have f14 : m2 14 3 = m 247 6 := by rw [a4 14 (by decide)]; exact e14
  obtain ⟨w, w1, w2⟩ := lw_P (e := e) (d := d + 4) (m := m2) a3 f14 b6 a2 (jshl 1 (m 247 6)).toNat 0 (jshl 1 (m 247 6) - 1) (by omega) (by omega) (Or.inr rfl) ⟨⟨by omega, by omega⟩, meets_full b6, fun v v0 v1 v2 v3 => by omega⟩
  refine ⟨w, m2, ?_, w2, a3, a4⟩
  rw [lb.2.2] at w1
  rw [← w1, b_58_0, a1, ri_k, b_58_4, f14]
end WA
