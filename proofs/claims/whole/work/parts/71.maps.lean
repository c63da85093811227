/-! The ways of all stones. -/
theorem isWay_cg {W W' : Int → Prop} {a : Int} {w w' : Int → Int} (a0 : 0 ≤ a) (a1 : a < 100) (hW : ∀ c, 0 ≤ c → c < 100 → (W c ↔ W' c)) (hw : ∀ c, 0 ≤ c → c < 100 → w' c = w c) (h : isWay W a w) : isWay W' a w' := by
  refine ⟨fun c c0 c1 => ?_, fun c c0 c1 => ?_, fun c s n c0 c1 s0 s1 hn n3 hc hWn => ?_, fun c c0 c1 hc => ?_⟩
  · rw [hw c c0 c1]
    exact (h.1 c c0 c1).imp id (fun z => ⟨z.1, z.2.1, fun y => z.2.2 ((hW c c0 c1).mpr y)⟩)
  · rw [hw c c0 c1, h.2.1 c c0 c1, hW a a0 a1]
  · have nb := nbr_b (s := s) c0 c1 (by rw [hn]; exact n3)
    rw [hn] at nb
    rw [hw c c0 c1] at hc ⊢
    rw [hw n nb.1 nb.2.1]
    exact h.2.2.1 c s n c0 c1 s0 s1 hn n3 hc (fun y => hWn ((hW n nb.1 nb.2.1).mp y))
  · rw [hw c c0 c1] at hc ⊢
    obtain ⟨s, s0, s1, s2, s3⟩ := h.2.2.2 c c0 c1 hc
    have nb := nbr_b c0 c1 s2
    exact ⟨s, s0, s1, s2, by rw [hw _ nb.1 nb.2.1]; exact s3⟩
section MP
variable {e : List Int32 × Value} {d : Nat} {m : zMm}
theorem mapStones_ok (hr : Rng m) (iN : cNum m (m 247)) (iG : cGnd m (m 247)) (iS : cSto m (m 247)) (iB : beside m) : ∃ m2, Z e (d + 2) 90 0 [.ref 191, .retAddr 0] [] m = rn m2 ∧ (∀ s, 0 ≤ s → s < m 247 2 → isWay (wall (m 247)) (m 247 (254 + 2 * s)) (m2 (196 + s.toNat))) ∧ Rng m2 ∧ (∀ k', ¬ (196 ≤ k' ∧ k' < 202) → ¬ k' = 193 → m2 k' = m k') := by
  have bN := iN
  unfold cNum at bN
  have : ∀ (j : Nat) (k : Int) (m1 : zMm), k + j = m 247 2 → 0 ≤ k → (∀ s, 0 ≤ s → s < k → isWay (wall (m 247)) (m 247 (254 + 2 * s)) (m1 (196 + s.toNat))) → Rng m1 → (∀ k', ¬ (196 ≤ k' ∧ k' < 202) → ¬ k' = 193 → m1 k' = m k') → ∃ m2, Z e (d + 2) 90 2 [.ref 191, .int (iI k)] [] m1 = rn m2 ∧ (∀ s, 0 ≤ s → s < m 247 2 → isWay (wall (m 247)) (m 247 (254 + 2 * s)) (m2 (196 + s.toNat))) ∧ Rng m2 ∧ (∀ k', ¬ (196 ≤ k' ∧ k' < 202) → ¬ k' = 193 → m2 k' = m k') := by
    intro j
    induction j with
    | zero =>
      intro k m1 hk k0 h r1 fr
      have f6 : m1 6 = m 6 := fr 6 (by decide) (by decide)
      have : k = m 247 2 := by omega
      refine ⟨m1, ?_, by rw [this] at h; exact h, r1, fr⟩
      refine (b_90_2).trans ?_
      simp (disch := first | omega | (simp (disch := first | decide | omega) only [um_k, um_e, um_i, uz_k]; omega) | exact cat_i | exact cat_u | exact cat_r | assumption | exact rfl) only [f6, hr _ _, wr_of, ↓reduceIte, ck_T, lt_T, lt_F, le_T, le_F, eq_T, eq_F, and_true, true_and, and_false, false_and, or_true, true_or, or_false, false_or, and_self, or_self, not_true_eq_false, not_false_eq_true, implies_true, forall_const, true_implies, false_implies, ri_k, rn_k, rr_k, wr_bi, bi_e0, bi_e1, bi_T, bi_F, Classical.not_not, itp, itn, ck_t]
    | succ j ih =>
      intro k m1 hk k0 h r1 fr
      have q := iS k k0 (by omega)
      have f6 : m1 6 = m 6 := fr 6 (by decide) (by decide)
      have f7 : m1 7 = m 7 := fr 7 (by decide) (by decide)
      have f2 : m1 2 = m 2 := fr 2 (by decide) (by decide)
      have f247 : m1 247 = m 247 := fr 247 (by decide) (by decide)
      have f192 : m1 192 = m 192 := fr 192 (by decide) (by decide)
      have g6 := get_6 (e := e) (d := d + 1) (m := m1) (i := k) (j := 0) (by rw [f6]; omega) (by rw [f6]; omega) k0 (by rw [f6]; omega) (by decide) (by decide)
      rw [f7, q.1.1] at g6
      obtain ⟨m2, a1, a2, a3, a4⟩ := R_spread (e := e) (d := d) (m := m1) (a2 := 196 + k.toNat) (a := m 247 (254 + 2 * k)) (zArr_195 (j := k) ⟨k0, by omega⟩) (by omega) (by omega) (by omega) (by omega) r1 (fun c g0 g1 => by rw [f2, f247]; exact (iG c g0 g1).1) (by unfold beside; rw [f192]; exact iB) q.1.2.1 q.1.2.2
      rw [f247] at a2
      obtain ⟨m3, b1, b2⟩ := ih (k + 1) m2 (by omega) (by omega) (fun s s0 s1 => by
        by_cases hs : s = k
        · rw [hs]; exact a2
        · rw [a4 (196 + s.toNat) (by omega) (by omega)]
          exact h s s0 (by omega)) a3 (fun k' g1 g2 => by rw [a4 k' (by omega) g2]; exact fr k' g1 g2)
      refine ⟨m3, ?_, b2⟩
      rw [← b1]
      refine (b_90_2).trans ?_
      have wk : wr k = k := wr_of (by omega) (by omega)
      simp (disch := first | omega | (simp (disch := first | decide | omega) only [um_k, um_e, um_i, uz_k]; omega) | exact cat_i | exact cat_u | exact cat_r | assumption | exact rfl) only [wk, f6, hr _ _, g6, b_90_35, a1, b_90_44, wr_of, ↓reduceIte, ck_T, lt_T, lt_F, le_T, le_F, eq_T, eq_F, and_true, true_and, and_false, false_and, or_true, true_or, or_false, false_or, and_self, or_self, not_true_eq_false, not_false_eq_true, implies_true, forall_const, true_implies, false_implies, ri_k, rn_k, rr_k, wr_bi, bi_e0, bi_e1, bi_T, bi_F, Classical.not_not, itp, itn, ck_t]
  rw [b_90_0]
  exact this (m 247 2).toNat 0 m (by omega) (by omega) (fun s s0 s1 => by omega) hr (fun _ _ _ => rfl)
end MP
