/-! The reference's search: the loops. -/
def wy (g : Int → Int) : Int → Int := fun c => if g c = 1000 then -3 else g c
theorem wy_n {g : Int → Int} {c : Int} (h : ¬ wy g c = -3) : wy g c = g c ∧ ¬ g c = 1000 := by
  unfold wy at *
  by_cases q : g c = 1000
  · exact absurd (by simp [q]) h
  · simp [q]
theorem wy_up {g : Int → Int} {c x : Int} (h : ¬ x = 1000) : wy (up g c x) = up (wy g) c x := by
  funext i
  unfold wy up
  by_cases q : i = c <;> simp [q, h]
section FX
variable {e : List Int32 × Value} {d : Nat} {m : zMm}
theorem fw_inner {a k : Int} : ∀ (j : Nat) (s t : Int) (m1 : zMm) (u1 u5 : Value), u1.category = 1 → s + j = 4 → BI (wall (m 247)) a k s t (wy (m1 252)) (m1 253) → k < t → (∀ c, 0 ≤ c → c < 100 → ¬ m1 252 c = -3) → Rng m1 → (∀ k', ¬ k' = 252 → ¬ k' = 253 → m1 k' = m k') → ∃ (m2 : zMm) (t' : Int) (u4 u5' : Value), Z e (d + 3) 209 58 [.ref 246, u1, .int (iI t), .int (iI k), .int (iI s), u5] [] m1 = Z e (d + 3) 209 50 [.ref 246, u1, .int (iI t'), .int (iI (k + 1)), u4, u5'] [] m2 ∧ BI (wall (m 247)) a k 4 t' (wy (m2 252)) (m2 253) ∧ k < t' ∧ (∀ c, 0 ≤ c → c < 100 → ¬ m2 252 c = -3) ∧ Rng m2 ∧ (∀ k', ¬ k' = 252 → ¬ k' = 253 → m2 k' = m k') := by
  intro j
  induction j with
  | zero =>
    intro s t m1 u1 u5 hu hs hb hk hv r1 fr
    have hs4 : s = 4 := by omega
    subst hs4
    have ht := hb.t_le
    have k0 := hb.1.1.1
    refine ⟨m1, t, .int (iI 4), u5, ?_, hb, hk, hv, r1, fr⟩
    refine (b_209_58).trans ?_
    simp (disch := first | omega | (simp (disch := first | decide | omega) only [um_k, um_e, um_i, uz_k]; omega) | exact cat_i | exact cat_u | exact cat_r | assumption | exact rfl) only [wr_of, ↓reduceIte, ck_T, lt_T, lt_F, le_T, le_F, eq_T, eq_F, and_true, true_and, and_false, false_and, or_true, true_or, or_false, false_or, and_self, or_self, not_true_eq_false, not_false_eq_true, implies_true, forall_const, true_implies, false_implies, ri_k, rn_k, rr_k, wr_bi, bi_e0, bi_e1, bi_T, bi_F, Classical.not_not, itp, itn, ck_t]
  | succ j ih =>
    intro s t m1 u1 u5 hu hs hb hk hv r1 fr
    have q := (hb.2.2.1 k hb.1.1.1 hk).1
    have k0 := hb.1.1.1
    have s0 := hb.1.1.2.1
    have ht := hb.t_le
    have e247 : m1 247 = m 247 := fr 247 (by decide) (by decide)
    have st := stepTo_ok (e := e) (d := d) (m := m1) q.1 q.2 s0 (by omega) r1
    have wk : wr k = k := wr_of (by omega) (by omega)
    have ws : wr s = s := wr_of (by omega) (by omega)
    have hb1 : Z e (d + 3) 209 58 [.ref 246, u1, .int (iI t), .int (iI k), .int (iI s), u5] [] m1 = Z e (d + 3) 209 76 [.ref 246, u1, .int (iI t), .int (iI k), .int (iI s), u5] [.int (iI (if nbr (m1 253 k) s = -3 ∨ m1 247 (10 + nbr (m1 253 k) s) = 1 then -1 else nbr (m1 253 k) s))] m1 := by
      refine (b_209_58).trans ?_
      simp (disch := first | omega | (simp (disch := first | decide | omega) only [um_k, um_e, um_i, uz_k]; omega) | exact cat_i | exact cat_u | exact cat_r | assumption | exact rfl) only [wk, st, wr_of, ↓reduceIte, ck_T, lt_T, lt_F, le_T, le_F, eq_T, eq_F, and_true, true_and, and_false, false_and, or_true, true_or, or_false, false_or, and_self, or_self, not_true_eq_false, not_false_eq_true, implies_true, forall_const, true_implies, false_implies, ri_k, rn_k, rr_k, wr_bi, bi_e0, bi_e1, bi_T, bi_F, Classical.not_not, itp, itn, ck_t]
    by_cases hn : nbr (m1 253 k) s = -3 ∨ m1 247 (10 + nbr (m1 253 k) s) = 1
    · obtain ⟨m2, t', u4, u5', h1, h2⟩ := ih (s + 1) t m1 u1 (.int (iI (-1))) hu (by omega) (hb.old hk (by omega) (by rw [e247] at hn; exact hn.elim Or.inl (fun h => Or.inr (Or.inr h)))) hk hv r1 fr
      refine ⟨m2, t', u4, u5', ?_, h2⟩
      rw [← h1, hb1, itp hn]
      refine (b_209_76 hu).trans ?_
      simp (disch := first | omega | (simp (disch := first | decide | omega) only [um_k, um_e, um_i, uz_k]; omega) | exact cat_i | exact cat_u | exact cat_r | assumption | exact rfl) only [wr_of, ↓reduceIte, ck_T, lt_T, lt_F, le_T, le_F, eq_T, eq_F, and_true, true_and, and_false, false_and, or_true, true_or, or_false, false_or, and_self, or_self, not_true_eq_false, not_false_eq_true, implies_true, forall_const, true_implies, false_implies, ri_k, rn_k, rr_k, wr_bi, bi_e0, bi_e1, bi_T, bi_F, Classical.not_not, itp, itn, ck_t]
    · have nb := nbr_b q.1 q.2 (fun h => hn (Or.inl h))
      have wn : wr (nbr (m1 253 k) s) = nbr (m1 253 k) s := wr_of (by omega) (by omega)
      by_cases hc : m1 252 (nbr (m1 253 k) s) = 1000
      · have wv := hb.2.2.1 k k0 hk
        have wq := wy_n (g := m1 252) (c := m1 253 k) (by omega)
        have hb2 := hb.new hk (by omega) (fun h => hn (Or.inl h)) (by unfold wy; simp [hc]) (fun h => hn (Or.inr (by rw [e247]; exact h)))
        have ht2 := hb2.t_le
        have qa : (um (um m1 252 (nbr (m1 253 k) s) (m1 252 (m1 253 k) + 1)) 253 t (nbr (m1 253 k) s)) 252 = up (m1 252) (nbr (m1 253 k) s) (m1 252 (m1 253 k) + 1) := by
          rw [um_r (by decide)]
          funext i
          unfold um up
          by_cases hi : i = nbr (m1 253 k) s <;> simp [hi]
        have qq : (um (um m1 252 (nbr (m1 253 k) s) (m1 252 (m1 253 k) + 1)) 253 t (nbr (m1 253 k) s)) 253 = up (m1 253) t (nbr (m1 253 k) s) := by
          funext i
          unfold um up
          by_cases hi : i = t <;> simp [hi]
        obtain ⟨m2, t', u4, u5', h1, h2⟩ := ih (s + 1) (t + 1) (um (um m1 252 (nbr (m1 253 k) s) (m1 252 (m1 253 k) + 1)) 253 t (nbr (m1 253 k) s)) u1 (.int (iI (nbr (m1 253 k) s))) hu (by omega) (by rw [qa, qq, wy_up (by omega), ← wq.1]; exact hb2) (by omega) (fun c c0 c1 => by
          rw [qa]
          by_cases hi : c = nbr (m1 253 k) s
          · rw [hi, up_s]; omega
          · rw [up_n hi]; exact hv c c0 c1) ((r1.um (wr_of (by omega) (by omega))).um (wr_of (by omega) (by omega))) (fun k' g1 g2 => by rw [um_r g2, um_r g1]; exact fr k' g1 g2)
        refine ⟨m2, t', u4, u5', ?_, h2⟩
        rw [← h1, hb1, itn hn]
        refine (b_209_76 hu).trans ?_
        simp (disch := first | omega | (simp (disch := first | decide | omega) only [um_k, um_e, um_i, uz_k]; omega) | exact cat_i | exact cat_u | exact cat_r | assumption | exact rfl) only [wn, wk, hc, r1 _ _, wr_of, ↓reduceIte, ck_T, lt_T, lt_F, le_T, le_F, eq_T, eq_F, and_true, true_and, and_false, false_and, or_true, true_or, or_false, false_or, and_self, or_self, not_true_eq_false, not_false_eq_true, implies_true, forall_const, true_implies, false_implies, ri_k, rn_k, rr_k, wr_bi, bi_e0, bi_e1, bi_T, bi_F, Classical.not_not, itp, itn, ck_t]
      · obtain ⟨m2, t', u4, u5', h1, h2⟩ := ih (s + 1) t m1 u1 (.int (iI (nbr (m1 253 k) s))) hu (by omega) (hb.old hk (by omega) (Or.inr (Or.inl (by have := hv _ nb.1 nb.2.1; unfold wy; simp [hc, this])))) hk hv r1 fr
        refine ⟨m2, t', u4, u5', ?_, h2⟩
        rw [← h1, hb1, itn hn]
        refine (b_209_76 hu).trans ?_
        simp (disch := first | omega | (simp (disch := first | decide | omega) only [um_k, um_e, um_i, uz_k]; omega) | exact cat_i | exact cat_u | exact cat_r | assumption | exact rfl) only [wn, wk, r1 _ _, wr_of, ↓reduceIte, ck_T, lt_T, lt_F, le_T, le_F, eq_T, eq_F, and_true, true_and, and_false, false_and, or_true, true_or, or_false, false_or, and_self, or_self, not_true_eq_false, not_false_eq_true, implies_true, forall_const, true_implies, false_implies, ri_k, rn_k, rr_k, wr_bi, bi_e0, bi_e1, bi_T, bi_F, Classical.not_not, itp, itn, ck_t]
theorem fw_outer {a : Int} : ∀ (j : Nat) (k t : Int) (m1 : zMm) (u1 u4 u5 : Value), u1.category = 1 → k + j = 101 → BI (wall (m 247)) a k 0 t (wy (m1 252)) (m1 253) → (∀ c, 0 ≤ c → c < 100 → ¬ m1 252 c = -3) → Rng m1 → (∀ k', ¬ k' = 252 → ¬ k' = 253 → m1 k' = m k') → ∃ m2 : zMm, Z e (d + 3) 209 50 [.ref 246, u1, .int (iI t), .int (iI k), u4, u5] [] m1 = rn m2 ∧ isWay (wall (m 247)) a (wy (m2 252)) ∧ (∀ c, 0 ≤ c → c < 100 → ¬ m2 252 c = -3) ∧ Rng m2 ∧ (∀ k', ¬ k' = 252 → ¬ k' = 253 → m2 k' = m k') := by
  intro j
  induction j with
  | zero =>
    intro k t m1 u1 u4 u5 hu hk hb
    have := hb.t_le
    have := hb.1.1
    omega
  | succ j ih =>
    intro k t m1 u1 u4 u5 hu hk hb hv r1 fr
    have ht := hb.t_le
    have k0 := hb.1.1
    by_cases hkt : k < t
    · obtain ⟨m2, t', v4, v5, h1, h2, h3, h6, h4, h5⟩ := fw_inner (e := e) (d := d) 4 0 t m1 u1 u5 hu (by omega) hb hkt hv r1 fr
      obtain ⟨m3, g1, g2⟩ := ih (k + 1) t' m2 u1 v4 v5 hu (by omega) (h2.next h3) h6 h4 h5
      refine ⟨m3, ?_, g2⟩
      rw [← g1, ← h1]
      refine (b_209_50).trans ?_
      simp (disch := first | omega | (simp (disch := first | decide | omega) only [um_k, um_e, um_i, uz_k]; omega) | exact cat_i | exact cat_u | exact cat_r | assumption | exact rfl) only [wr_of, ↓reduceIte, ck_T, lt_T, lt_F, le_T, le_F, eq_T, eq_F, and_true, true_and, and_false, false_and, or_true, true_or, or_false, false_or, and_self, or_self, not_true_eq_false, not_false_eq_true, implies_true, forall_const, true_implies, false_implies, ri_k, rn_k, rr_k, wr_bi, bi_e0, bi_e1, bi_T, bi_F, Classical.not_not, itp, itn, ck_t]
    · have : k = t := by omega
      subst this
      refine ⟨m1, ?_, hb.done, hv, r1, fr⟩
      refine (b_209_50).trans ?_
      simp (disch := first | omega | (simp (disch := first | decide | omega) only [um_k, um_e, um_i, uz_k]; omega) | exact cat_i | exact cat_u | exact cat_r | assumption | exact rfl) only [wr_of, ↓reduceIte, ck_T, lt_T, lt_F, le_T, le_F, eq_T, eq_F, and_true, true_and, and_false, false_and, or_true, true_or, or_false, false_or, and_self, or_self, not_true_eq_false, not_false_eq_true, implies_true, forall_const, true_implies, false_implies, ri_k, rn_k, rr_k, wr_bi, bi_e0, bi_e1, bi_T, bi_F, Classical.not_not, itp, itn, ck_t]
theorem findWays_ok {a : Int} (hr : Rng m) (a0 : 0 ≤ a) (a1 : a < 100) : ∃ m2 : zMm, Z e (d + 3) 209 0 [.ref 246, .int (iI a), .retAddr 0, .retAddr 0, .retAddr 0, .retAddr 0] [] m = rn m2 ∧ isWay (wall (m 247)) a (wy (m2 252)) ∧ (∀ c, 0 ≤ c → c < 100 → ¬ m2 252 c = -3) ∧ Rng m2 ∧ (∀ k', ¬ k' = 252 → ¬ k' = 253 → m2 k' = m k') := by
  obtain ⟨m1, f1, f2⟩ := lpM (m := m) (c := 252) (ix := fun i => i) (g := fun _ => 1000) (n := 100) (F := fun i m' => Z e (d + 3) 209 2 [.ref 246, .int (iI a), .int (iI i), .retAddr 0, .retAddr 0, .retAddr 0] [] m') (by decide) (fun p q _ _ _ => by omega) (by
    intro i m' g1 g2 A
    refine (b_209_2).trans ?_
    simp (disch := first | omega | (simp (disch := first | decide | omega) only [um_k, um_e, um_i, uz_k]; omega) | exact cat_i | exact cat_u | exact cat_r | assumption | exact rfl) only [wr_of, ↓reduceIte, ck_T, lt_T, lt_F, le_T, le_F, eq_T, eq_F, and_true, true_and, and_false, false_and, or_true, true_or, or_false, false_or, and_self, or_self, not_true_eq_false, not_false_eq_true, implies_true, forall_const, true_implies, false_implies, ri_k, rn_k, rr_k, wr_bi, bi_e0, bi_e1, bi_T, bi_F, Classical.not_not, itp, itn, ck_t])
  have r1 : Rng m1 := Fill.rng hr (fun _ _ _ => rfl) f2
  have e247 : m1 247 = m 247 := f2.1 247 (by decide)
  have wa : wr a = a := wr_of (by omega) (by omega)
  have w10 : wr (10 + a) = 10 + a := wr_of (by omega) (by omega)
  have e0 : Z e (d + 3) 209 0 [.ref 246, .int (iI a), .retAddr 0, .retAddr 0, .retAddr 0, .retAddr 0] [] m = Z e (d + 3) 209 23 [.ref 246, .int (iI a), .int (iI 100), .retAddr 0, .retAddr 0, .retAddr 0] [] m1 := by
    rw [b_209_0, f1]
    refine (b_209_2).trans ?_
    simp (disch := first | omega | (simp (disch := first | decide | omega) only [um_k, um_e, um_i, uz_k]; omega) | exact cat_i | exact cat_u | exact cat_r | assumption | exact rfl) only [wr_of, ↓reduceIte, ck_T, lt_T, lt_F, le_T, le_F, eq_T, eq_F, and_true, true_and, and_false, false_and, or_true, true_or, or_false, false_or, and_self, or_self, not_true_eq_false, not_false_eq_true, implies_true, forall_const, true_implies, false_implies, ri_k, rn_k, rr_k, wr_bi, bi_e0, bi_e1, bi_T, bi_F, Classical.not_not, itp, itn, ck_t]
  rw [e0, b_209_23]
  by_cases hw : m 247 (10 + a) = 1
  · refine ⟨m1, ?_, isWay_wall hw (fun c c0 c1 => ?_), (fun c c0 c1 => ?_), r1, fun k' g1 g2 => f2.1 k' g1⟩
    · simp (disch := first | omega | (simp (disch := first | decide | omega) only [um_k, um_e, um_i, uz_k]; omega) | exact cat_i | exact cat_u | exact cat_r | assumption | exact rfl) only [w10, r1 _ _, e247, hr _ _, hw, wr_of, ↓reduceIte, ck_T, lt_T, lt_F, le_T, le_F, eq_T, eq_F, and_true, true_and, and_false, false_and, or_true, true_or, or_false, false_or, and_self, or_self, not_true_eq_false, not_false_eq_true, implies_true, forall_const, true_implies, false_implies, ri_k, rn_k, rr_k, wr_bi, bi_e0, bi_e1, bi_T, bi_F, Classical.not_not, itp, itn, ck_t]
    · have := f2.2.1 c c0 c1
      unfold wy
      simp [this]
    · have := f2.2.1 c c0 c1
      dsimp only at this
      omega
  · have h0 : ∀ k', ¬ k' = 252 → ¬ k' = 253 → (um (um m1 252 a 0) 253 0 a) k' = m k' := fun k' g1 g2 => by rw [um_r g2, um_r g1]; exact f2.1 k' g1
    have g252 : ∀ c, 0 ≤ c → c < 100 → (um (um m1 252 a 0) 253 0 a) 252 c = if c = a then 0 else 1000 := fun c c0 c1 => by
      rw [um_r (by decide)]
      by_cases hc : c = a
      · rw [hc, um_s, itp rfl]
      · rw [um_i hc, itn hc]
        exact f2.2.1 c c0 c1
    have hb : BI (wall (m 247)) a 0 0 1 (wy ((um (um m1 252 a 0) 253 0 a) 252)) ((um (um m1 252 a 0) 253 0 a) 253) := BI.start a0 a1 hw um_s (fun c c0 c1 => by
      have := g252 c c0 c1
      by_cases hc : c = a
      · rw [itp hc] at *
        unfold wy
        simp [this]
      · rw [itn hc] at *
        unfold wy
        simp [this])
    obtain ⟨m2, g1, g2⟩ := fw_outer (e := e) (d := d) 101 0 1 (um (um m1 252 a 0) 253 0 a) (.int (iI a)) (.retAddr 0) (.retAddr 0) cat_i (by omega) hb (fun c c0 c1 => by
      rw [g252 c c0 c1]
      by_cases hc : c = a
      · rw [itp hc]; decide
      · rw [itn hc]; decide) ((r1.um rfl).um wa) h0
    refine ⟨m2, ?_, g2⟩
    rw [← g1]
    simp (disch := first | omega | (simp (disch := first | decide | omega) only [um_k, um_e, um_i, uz_k]; omega) | exact cat_i | exact cat_u | exact cat_r | assumption | exact rfl) only [w10, wa, r1 _ _, e247, hr _ _, wr_of, ↓reduceIte, ck_T, lt_T, lt_F, le_T, le_F, eq_T, eq_F, and_true, true_and, and_false, false_and, or_true, true_or, or_false, false_or, and_self, or_self, not_true_eq_false, not_false_eq_true, implies_true, forall_const, true_implies, false_implies, ri_k, rn_k, rr_k, wr_bi, bi_e0, bi_e1, bi_T, bi_F, Classical.not_not, itp, itn, ck_t]
end FX
