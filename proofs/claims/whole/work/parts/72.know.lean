/-! The reference's ways of all stones. -/
section KW
variable {e : List Int32 × Value} {d : Nat} {m : zMm}
theorem knowWays_ok (hr : Rng m) (b2 : 0 ≤ m 247 2 ∧ m 247 2 ≤ 6) (hS : ∀ s, 0 ≤ s → s < m 247 2 → 0 ≤ m 247 (254 + 2 * s) ∧ m 247 (254 + 2 * s) < 100) (h12 : m 246 12 = 0) : ∃ m2, Z e (d + 4) 210 0 [.ref 246, .retAddr 0, .retAddr 0] [] m = rn (um m2 246 12 1) ∧ (∀ s, 0 ≤ s → s < m 247 2 → isWay (wall (m 247)) (m 247 (254 + 2 * s)) (fun c => if m2 254 (100 * s + c) = 1000 then -3 else m2 254 (100 * s + c)) ∧ ∀ c, 0 ≤ c → c < 100 → ¬ m2 254 (100 * s + c) = -3) ∧ Rng m2 ∧ (∀ k', ¬ k' = 252 → ¬ k' = 253 → ¬ k' = 254 → m2 k' = m k') := by
  have : ∀ (j : Nat) (k : Int) (m1 : zMm) (u2 : Value), k + j = m 247 2 → 0 ≤ k → (∀ s, 0 ≤ s → s < k → isWay (wall (m 247)) (m 247 (254 + 2 * s)) (fun c => if m1 254 (100 * s + c) = 1000 then -3 else m1 254 (100 * s + c)) ∧ ∀ c, 0 ≤ c → c < 100 → ¬ m1 254 (100 * s + c) = -3) → Rng m1 → (∀ k', ¬ k' = 252 → ¬ k' = 253 → ¬ k' = 254 → m1 k' = m k') → ∃ m2, Z e (d + 4) 210 2 [.ref 246, .int (iI k), u2] [] m1 = rn (um m2 246 12 1) ∧ (∀ s, 0 ≤ s → s < m 247 2 → isWay (wall (m 247)) (m 247 (254 + 2 * s)) (fun c => if m2 254 (100 * s + c) = 1000 then -3 else m2 254 (100 * s + c)) ∧ ∀ c, 0 ≤ c → c < 100 → ¬ m2 254 (100 * s + c) = -3) ∧ Rng m2 ∧ (∀ k', ¬ k' = 252 → ¬ k' = 253 → ¬ k' = 254 → m2 k' = m k') := by
    intro j
    induction j with
    | zero =>
      intro k m1 u2 hk k0 h r1 fr
      have f247 : m1 247 = m 247 := fr 247 (by decide) (by decide) (by decide)
      have : k = m 247 2 := by omega
      refine ⟨m1, ?_, by rw [this] at h; exact h, r1, fr⟩
      refine (b_210_2).trans ?_
      simp (disch := first | omega | (simp (disch := first | decide | omega) only [um_k, um_e, um_i, uz_k]; omega) | exact cat_i | exact cat_u | exact cat_r | assumption | exact rfl) only [f247, hr _ _, wr_of, ↓reduceIte, ck_T, lt_T, lt_F, le_T, le_F, eq_T, eq_F, and_true, true_and, and_false, false_and, or_true, true_or, or_false, false_or, and_self, or_self, not_true_eq_false, not_false_eq_true, implies_true, forall_const, true_implies, false_implies, ri_k, rn_k, rr_k, wr_bi, bi_e0, bi_e1, bi_T, bi_F, Classical.not_not, itp, itn, ck_t]
    | succ j ih =>
      intro k m1 u2 hk k0 h r1 fr
      have q := hS k k0 (by omega)
      have f247 : m1 247 = m 247 := fr 247 (by decide) (by decide) (by decide)
      have f246 : m1 246 12 = 0 := by rw [fr 246 (by decide) (by decide) (by decide)]; exact h12
      obtain ⟨m2, a1, a2, a3, a4, a5⟩ := findWays_ok (e := e) (d := d) (m := m1) (a := m 247 (254 + 2 * k)) r1 q.1 q.2
      rw [f247] at a2
      obtain ⟨m3, c1, c2⟩ := lpM (m := m2) (c := 254) (ix := fun p => 100 * k + p) (g := fun p => m2 252 p) (n := 100) (F := fun i m' => Z e (d + 4) 210 37 [.ref 246, .int (iI k), .int (iI i)] [] m') (by decide) (fun p q _ _ _ => by omega) (by
        intro i m' g1 g2 A
        have q : m' 252 i = m2 252 i := by rw [A.1 252 (by decide)]
        refine (b_210_37).trans ?_
        simp (disch := first | omega | (simp (disch := first | decide | omega) only [um_k, um_e, um_i, uz_k]; omega) | exact cat_i | exact cat_u | exact cat_r | assumption | exact rfl) only [q, wr_of, ↓reduceIte, ck_T, lt_T, lt_F, le_T, le_F, eq_T, eq_F, and_true, true_and, and_false, false_and, or_true, true_or, or_false, false_or, and_self, or_self, not_true_eq_false, not_false_eq_true, implies_true, forall_const, true_implies, false_implies, ri_k, rn_k, rr_k, wr_bi, bi_e0, bi_e1, bi_T, bi_F, Classical.not_not, itp, itn, ck_t])
      have r3 : Rng m3 := Fill.rng a4 (fun i _ _ => a4 _ _) c2
      have f254 : m2 254 = m1 254 := a5 254 (by decide) (by decide)
      obtain ⟨m4, b1, b2⟩ := ih (k + 1) m3 (.int (iI 100)) (by omega) (by omega) (fun s s0 s1 => by
        by_cases hs : s = k
        · rw [hs]
          refine ⟨isWay_cg q.1 q.2 (fun _ _ _ => Iff.rfl) (fun c c0 c1 => ?_) a2, fun c c0 c1 => ?_⟩
          · have := c2.2.1 c c0 c1
            dsimp only at this ⊢
            rw [this]
            rfl
          · have := c2.2.1 c c0 c1
            dsimp only at this ⊢
            rw [this]
            exact a3 c c0 c1
        · refine ⟨isWay_cg (hS s s0 (by omega)).1 (hS s s0 (by omega)).2 (fun _ _ _ => Iff.rfl) (fun c c0 c1 => ?_) (h s s0 (by omega)).1, fun c c0 c1 => ?_⟩
          · have := c2.2.2 (100 * s + c) (fun p p0 p1 => by dsimp only; omega)
            rw [this, f254]
          · have := c2.2.2 (100 * s + c) (fun p p0 p1 => by dsimp only; omega)
            rw [this, f254]
            exact (h s s0 (by omega)).2 c c0 c1) r3 (fun k' g1 g2 g3 => by rw [c2.1 k' g3, a5 k' g1 g2]; exact fr k' g1 g2 g3)
      refine ⟨m4, ?_, b2⟩
      rw [← b1]
      refine (b_210_2).trans ?_
      have wc : wr (254 + 2 * k) = 254 + 2 * k := wr_of (by omega) (by omega)
      have w12 : wr (m1 246 12) = 0 := by rw [f246]; rfl
      simp (disch := first | omega | (simp (disch := first | decide | omega) only [um_k, um_e, um_i, uz_k]; omega) | exact cat_i | exact cat_u | exact cat_r | assumption | exact rfl) only [f247, hr _ _, w12, wc, a1, b_210_35, wr_of, ↓reduceIte, ck_T, lt_T, lt_F, le_T, le_F, eq_T, eq_F, and_true, true_and, and_false, false_and, or_true, true_or, or_false, false_or, and_self, or_self, not_true_eq_false, not_false_eq_true, implies_true, forall_const, true_implies, false_implies, ri_k, rn_k, rr_k, wr_bi, bi_e0, bi_e1, bi_T, bi_F, Classical.not_not, itp, itn, ck_t]
      rw [c1]
      refine (b_210_37).trans ?_
      simp (disch := first | omega | (simp (disch := first | decide | omega) only [um_k, um_e, um_i, uz_k]; omega) | exact cat_i | exact cat_u | exact cat_r | assumption | exact rfl) only [wr_of, ↓reduceIte, ck_T, lt_T, lt_F, le_T, le_F, eq_T, eq_F, and_true, true_and, and_false, false_and, or_true, true_or, or_false, false_or, and_self, or_self, not_true_eq_false, not_false_eq_true, implies_true, forall_const, true_implies, false_implies, ri_k, rn_k, rr_k, wr_bi, bi_e0, bi_e1, bi_T, bi_F, Classical.not_not, itp, itn, ck_t]
  rw [b_210_0]
  exact this (m 247 2).toNat 0 m (.retAddr 0) (by omega) (by omega) (fun s s0 s1 => by omega) hr (fun _ _ _ _ => rfl)
theorem wall_nw {N : Int → Int} {c : Int} (c0 : 0 ≤ c) (c1 : c < 100) : wall (nw N) c ↔ wall N c := by
  unfold wall nw
  rw [if_neg (by omega), if_pos (by omega)]
  by_cases h : N (10 + c) = 1
  · rw [if_pos h]; exact ⟨fun _ => h, fun _ => rfl⟩
  · rw [if_neg h]; exact ⟨fun z => absurd z (by decide), fun z => absurd z h⟩
theorem wall_nz {N : Int → Int} {c : Int} (c0 : 0 ≤ c) (c1 : c < 100) : wall (nz N) c ↔ wall N c := by
  unfold wall nz
  rw [if_neg (by omega), if_pos (by omega)]
  by_cases h : N (10 + c) = 1
  · rw [if_pos h]; exact ⟨fun _ => h, fun _ => rfl⟩
  · rw [if_neg h]; exact ⟨fun z => absurd z (by decide), fun z => absurd z h⟩
end KW
