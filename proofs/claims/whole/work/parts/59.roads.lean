/-! The class's and the reference's search. -/
section RO
variable {e : List Int32 × Value} {d : Nat} {m : zMm}
theorem sp_inner {a2 : Nat} {a k : Int} (hA : zArr a2 100) (n1 : ¬ a2 = 193) (n2 : ¬ a2 = 2) (n3 : ¬ a2 = 192) (hG : ∀ c, 0 ≤ c → c < 100 → m 2 c = m 247 (10 + c)) (hB : beside m) : ∀ (j : Nat) (s t : Int) (m1 : zMm) (u1 u7 : Value), u1.category = 1 → s + j = 4 → BI (wall (m 247)) a k s t (m1 a2) (m1 193) → k < t → Rng m1 → (∀ k', ¬ k' = a2 → ¬ k' = 193 → m1 k' = m k') → ∃ (m2 : zMm) (t' : Int) (u5 u6 u7' : Value), Z e (d + 1) 88 69 [.ref 191, u1, .ref a2, .int (iI t), .int (iI k), .int (iI (m1 193 k)), .int (iI (4 * m1 193 k + s)), u7] [] m1 = Z e (d + 1) 88 41 [.ref 191, u1, .ref a2, .int (iI t'), .int (iI (k + 1)), u5, u6, u7'] [] m2 ∧ BI (wall (m 247)) a k 4 t' (m2 a2) (m2 193) ∧ k < t' ∧ Rng m2 ∧ (∀ k', ¬ k' = a2 → ¬ k' = 193 → m2 k' = m k') := by
  intro j
  induction j with
  | zero =>
    intro s t m1 u1 u7 hu hs hb hk r1 fr
    have hs4 : s = 4 := by omega
    subst hs4
    have q := (hb.2.2.1 k hb.1.1.1 hk).1
    have ht := hb.t_le
    refine ⟨m1, t, .int (iI (m1 193 k)), .int (iI (4 * m1 193 k + 4)), u7, ?_, hb, hk, r1, fr⟩
    refine (b_88_69 hA).trans ?_
    simp (disch := first | omega | (simp (disch := first | decide | omega) only [um_k, um_e, um_i, uz_k]; omega) | exact cat_i | exact cat_u | exact cat_r | assumption | exact rfl) only [wr_of, ↓reduceIte, ck_T, lt_T, lt_F, le_T, le_F, eq_T, eq_F, and_true, true_and, and_false, false_and, or_true, true_or, or_false, false_or, and_self, or_self, not_true_eq_false, not_false_eq_true, implies_true, forall_const, true_implies, false_implies, ri_k, rn_k, rr_k, wr_bi, bi_e0, bi_e1, bi_T, bi_F, Classical.not_not, itp, itn, ck_t]
  | succ j ih =>
    intro s t m1 u1 u7 hu hs hb hk r1 fr
    have q := (hb.2.2.1 k hb.1.1.1 hk).1
    have k0 := hb.1.1.1
    have s0 := hb.1.1.2.1
    have ht := hb.t_le
    have e192 : m1 192 (4 * m1 193 k + s) = nbr (m1 193 k) s := by rw [fr 192 (by omega) (by decide)]; exact hB _ s q.1 q.2 s0 (by omega)
    by_cases hn : nbr (m1 193 k) s = -3
    · obtain ⟨m2, t', u5, u6, u7', h1, h2⟩ := ih (s + 1) t m1 u1 (.int (iI (nbr (m1 193 k) s))) hu (by omega) (hb.old hk (by omega) (Or.inl hn)) hk r1 fr
      refine ⟨m2, t', u5, u6, u7', ?_, h2⟩
      rw [← h1]
      refine (b_88_69 hA).trans ?_
      simp (disch := first | omega | (simp (disch := first | decide | omega) only [um_k, um_e, um_i, uz_k]; omega) | exact cat_i | exact cat_u | exact cat_r | assumption | exact rfl) only [e192, hn, wr_of, ↓reduceIte, ck_T, lt_T, lt_F, le_T, le_F, eq_T, eq_F, and_true, true_and, and_false, false_and, or_true, true_or, or_false, false_or, and_self, or_self, not_true_eq_false, not_false_eq_true, implies_true, forall_const, true_implies, false_implies, ri_k, rn_k, rr_k, wr_bi, bi_e0, bi_e1, bi_T, bi_F, Classical.not_not, itp, itn, ck_t]
      rw [Int.add_assoc]
    · have nb := nbr_b q.1 q.2 hn
      have e2 : m1 2 (nbr (m1 193 k) s) = m 247 (10 + nbr (m1 193 k) s) := by rw [fr 2 (by omega) (by decide)]; exact hG _ nb.1 nb.2.1
      by_cases hc : m1 a2 (nbr (m1 193 k) s) = -3 ∧ ¬ wall (m 247) (nbr (m1 193 k) s)
      · have hb2 := hb.new hk (by omega) hn hc.1 hc.2
        have ht2 := hb2.t_le
        have qa : (um (um m1 a2 (nbr (m1 193 k) s) (m1 a2 (m1 193 k) + 1)) 193 t (nbr (m1 193 k) s)) a2 = up (m1 a2) (nbr (m1 193 k) s) (m1 a2 (m1 193 k) + 1) := by
          rw [um_r n1]
          funext i
          unfold um up
          by_cases hi : i = nbr (m1 193 k) s <;> simp [hi]
        have qq : (um (um m1 a2 (nbr (m1 193 k) s) (m1 a2 (m1 193 k) + 1)) 193 t (nbr (m1 193 k) s)) 193 = up (m1 193) t (nbr (m1 193 k) s) := by
          funext i
          unfold um up
          by_cases hi : i = t
          · simp [hi]
          · simp [hi, show ¬ 193 = a2 by omega]
        have qk : (um (um m1 a2 (nbr (m1 193 k) s) (m1 a2 (m1 193 k) + 1)) 193 t (nbr (m1 193 k) s)) 193 k = m1 193 k := by rw [qq, up_n (by omega)]
        have wv := hb.2.2.1 k k0 hk
        obtain ⟨m2, t', u5, u6, u7', h1, h2⟩ := ih (s + 1) (t + 1) (um (um m1 a2 (nbr (m1 193 k) s) (m1 a2 (m1 193 k) + 1)) 193 t (nbr (m1 193 k) s)) u1 (.int (iI (nbr (m1 193 k) s))) hu (by omega) (by rw [qa, qq]; exact hb2) (by omega) ((r1.um (wr_of (by omega) (by omega))).um (wr_of (by omega) (by omega))) (fun k' g1 g2 => by rw [um_r g2, um_r g1]; exact fr k' g1 g2)
        refine ⟨m2, t', u5, u6, u7', ?_, h2⟩
        rw [← h1, qk]
        refine (b_88_69 hA).trans ?_
        have c2 : ¬ m1 2 (nbr (m1 193 k) s) = 1 := by rw [e2]; exact hc.2
        simp (disch := first | omega | (simp (disch := first | decide | omega) only [um_k, um_e, um_i, uz_k]; omega) | exact cat_i | exact cat_u | exact cat_r | assumption | exact rfl) only [e192, r1 _ _, hc.1, wr_of, ↓reduceIte, ck_T, lt_T, lt_F, le_T, le_F, eq_T, eq_F, and_true, true_and, and_false, false_and, or_true, true_or, or_false, false_or, and_self, or_self, not_true_eq_false, not_false_eq_true, implies_true, forall_const, true_implies, false_implies, ri_k, rn_k, rr_k, wr_bi, bi_e0, bi_e1, bi_T, bi_F, Classical.not_not, itp, itn, ck_t]
        rw [Int.add_assoc]
      · have hc2 : ¬ m1 a2 (nbr (m1 193 k) s) = -3 ∨ wall (m 247) (nbr (m1 193 k) s) := by
          by_cases h : m1 a2 (nbr (m1 193 k) s) = -3
          · exact Or.inr (Classical.not_not.mp (fun g => hc ⟨h, g⟩))
          · exact Or.inl h
        obtain ⟨m2, t', u5, u6, u7', h1, h2⟩ := ih (s + 1) t m1 u1 (.int (iI (nbr (m1 193 k) s))) hu (by omega) (hb.old hk (by omega) (Or.inr hc2)) hk r1 fr
        refine ⟨m2, t', u5, u6, u7', ?_, h2⟩
        rw [← h1]
        refine (b_88_69 hA).trans ?_
        unfold wall at hc2
        rcases hc2 with h | h
        · simp (disch := first | omega | (simp (disch := first | decide | omega) only [um_k, um_e, um_i, uz_k]; omega) | exact cat_i | exact cat_u | exact cat_r | assumption | exact rfl) only [e192, r1 _ _, wr_of, ↓reduceIte, ck_T, lt_T, lt_F, le_T, le_F, eq_T, eq_F, and_true, true_and, and_false, false_and, or_true, true_or, or_false, false_or, and_self, or_self, not_true_eq_false, not_false_eq_true, implies_true, forall_const, true_implies, false_implies, ri_k, rn_k, rr_k, wr_bi, bi_e0, bi_e1, bi_T, bi_F, Classical.not_not, itp, itn, ck_t]
          rw [Int.add_assoc]
        · rw [← e2] at h
          simp (disch := first | omega | (simp (disch := first | decide | omega) only [um_k, um_e, um_i, uz_k]; omega) | exact cat_i | exact cat_u | exact cat_r | assumption | exact rfl) only [e192, r1 _ _, wr_of, ↓reduceIte, ck_T, lt_T, lt_F, le_T, le_F, eq_T, eq_F, and_true, true_and, and_false, false_and, or_true, true_or, or_false, false_or, and_self, or_self, not_true_eq_false, not_false_eq_true, implies_true, forall_const, true_implies, false_implies, ri_k, rn_k, rr_k, wr_bi, bi_e0, bi_e1, bi_T, bi_F, Classical.not_not, itp, itn, ck_t]
          rw [Int.add_assoc]
theorem sp_outer {a2 : Nat} {a : Int} (hA : zArr a2 100) (n1 : ¬ a2 = 193) (n2 : ¬ a2 = 2) (n3 : ¬ a2 = 192) (hG : ∀ c, 0 ≤ c → c < 100 → m 2 c = m 247 (10 + c)) (hB : beside m) : ∀ (j : Nat) (k t : Int) (m1 : zMm) (u1 u5 u6 u7 : Value), u1.category = 1 → k + j = 101 → BI (wall (m 247)) a k 0 t (m1 a2) (m1 193) → Rng m1 → (∀ k', ¬ k' = a2 → ¬ k' = 193 → m1 k' = m k') → ∃ m2 : zMm, Z e (d + 1) 88 41 [.ref 191, u1, .ref a2, .int (iI t), .int (iI k), u5, u6, u7] [] m1 = rn m2 ∧ isWay (wall (m 247)) a (m2 a2) ∧ Rng m2 ∧ (∀ k', ¬ k' = a2 → ¬ k' = 193 → m2 k' = m k') := by
  intro j
  induction j with
  | zero =>
    intro k t m1 u1 u5 u6 u7 hu hk hb
    have := hb.t_le
    have := hb.1.1
    omega
  | succ j ih =>
    intro k t m1 u1 u5 u6 u7 hu hk hb r1 fr
    have ht := hb.t_le
    have k0 := hb.1.1
    by_cases hkt : k < t
    · obtain ⟨m2, t', v5, v6, v7, h1, h2, h3, h4, h5⟩ := sp_inner (e := e) (d := d) hA n1 n2 n3 hG hB 4 0 t m1 u1 u7 hu (by omega) hb hkt r1 fr
      obtain ⟨m3, g1, g2⟩ := ih (k + 1) t' m2 u1 v5 v6 v7 hu (by omega) (h2.next h3) h4 h5
      refine ⟨m3, ?_, g2⟩
      rw [← g1, ← h1]
      refine (b_88_41 hA).trans ?_
      simp (disch := first | omega | (simp (disch := first | decide | omega) only [um_k, um_e, um_i, uz_k]; omega) | exact cat_i | exact cat_u | exact cat_r | assumption | exact rfl) only [wr_of, ↓reduceIte, ck_T, lt_T, lt_F, le_T, le_F, eq_T, eq_F, and_true, true_and, and_false, false_and, or_true, true_or, or_false, false_or, and_self, or_self, not_true_eq_false, not_false_eq_true, implies_true, forall_const, true_implies, false_implies, ri_k, rn_k, rr_k, wr_bi, bi_e0, bi_e1, bi_T, bi_F, Classical.not_not, itp, itn, ck_t, Int.add_zero]
    · have : k = t := by omega
      subst this
      refine ⟨m1, ?_, hb.done, r1, fr⟩
      refine (b_88_41 hA).trans ?_
      simp (disch := first | omega | (simp (disch := first | decide | omega) only [um_k, um_e, um_i, uz_k]; omega) | exact cat_i | exact cat_u | exact cat_r | assumption | exact rfl) only [wr_of, ↓reduceIte, ck_T, lt_T, lt_F, le_T, le_F, eq_T, eq_F, and_true, true_and, and_false, false_and, or_true, true_or, or_false, false_or, and_self, or_self, not_true_eq_false, not_false_eq_true, implies_true, forall_const, true_implies, false_implies, ri_k, rn_k, rr_k, wr_bi, bi_e0, bi_e1, bi_T, bi_F, Classical.not_not, itp, itn, ck_t]
theorem R_spread {a2 : Nat} {a : Int} (hA : zArr a2 100) (n1 : ¬ a2 = 193) (n2 : ¬ a2 = 2) (n3 : ¬ a2 = 192) (n4 : ¬ a2 = 247) (hr : Rng m) (hG : ∀ c, 0 ≤ c → c < 100 → m 2 c = m 247 (10 + c)) (hB : beside m) (a0 : 0 ≤ a) (a1 : a < 100) : ∃ m2 : zMm, Z e (d + 1) 88 0 [.ref 191, .int (iI a), .ref a2, .retAddr 0, .retAddr 0, .retAddr 0, .retAddr 0, .retAddr 0] [] m = rn m2 ∧ isWay (wall (m 247)) a (m2 a2) ∧ Rng m2 ∧ (∀ k', ¬ k' = a2 → ¬ k' = 193 → m2 k' = m k') := by
  obtain ⟨m1, f1, f2⟩ := fill_ok (e := e) (d := d) (m := m) (x := -3) hA (by decide)
  have r1 : Rng m1 := Fill.rng hr (fun _ _ _ => rfl) f2
  have e2 : m1 2 a = m 247 (10 + a) := by rw [f2.1 2 (by omega)]; exact hG a a0 a1
  have wa : wr a = a := wr_of (by omega) (by omega)
  rw [b_88_0 hA, f1, rn_k, b_88_6 hA]
  by_cases hw : m 247 (10 + a) = 1
  · refine ⟨m1, ?_, isWay_wall hw (fun c c0 c1 => f2.2.1 c c0 c1), r1, fun k' g1 g2 => f2.1 k' g1⟩
    rw [← e2] at hw
    simp (disch := first | omega | (simp (disch := first | decide | omega) only [um_k, um_e, um_i, uz_k]; omega) | exact cat_i | exact cat_u | exact cat_r | assumption | exact rfl) only [wa, r1 _ _, hw, wr_of, ↓reduceIte, ck_T, lt_T, lt_F, le_T, le_F, eq_T, eq_F, and_true, true_and, and_false, false_and, or_true, true_or, or_false, false_or, and_self, or_self, not_true_eq_false, not_false_eq_true, implies_true, forall_const, true_implies, false_implies, ri_k, rn_k, rr_k, wr_bi, bi_e0, bi_e1, bi_T, bi_F, Classical.not_not, itp, itn, ck_t]
  · have h0 : ∀ k', ¬ k' = a2 → ¬ k' = 193 → (um (um m1 a2 a 0) 193 0 a) k' = m k' := fun k' g1 g2 => by rw [um_r g2, um_r g1]; exact f2.1 k' g1
    have hb : BI (wall (m 247)) a 0 0 1 ((um (um m1 a2 a 0) 193 0 a) a2) ((um (um m1 a2 a 0) 193 0 a) 193) := BI.start a0 a1 hw um_s (fun c c0 c1 => by
      rw [um_r n1]
      by_cases hc : c = a
      · rw [hc, um_s, itp rfl]
      · rw [um_i hc, itn hc]
        exact f2.2.1 c c0 c1)
    obtain ⟨m2, g1, g2, g3, g4⟩ := sp_outer (e := e) (d := d) hA n1 n2 n3 hG hB 101 0 1 (um (um m1 a2 a 0) 193 0 a) (.int (iI a)) (.retAddr 0) (.retAddr 0) (.retAddr 0) cat_i (by omega) hb ((r1.um rfl).um wa) h0
    refine ⟨m2, ?_, g2, g3, g4⟩
    rw [← g1]
    rw [← e2] at hw
    simp (disch := first | omega | (simp (disch := first | decide | omega) only [um_k, um_e, um_i, uz_k]; omega) | exact cat_i | exact cat_u | exact cat_r | assumption | exact rfl) only [wa, r1 _ _, wr_of, ↓reduceIte, ck_T, lt_T, lt_F, le_T, le_F, eq_T, eq_F, and_true, true_and, and_false, false_and, or_true, true_or, or_false, false_or, and_self, or_self, not_true_eq_false, not_false_eq_true, implies_true, forall_const, true_implies, false_implies, ri_k, rn_k, rr_k, wr_bi, bi_e0, bi_e1, bi_T, bi_F, Classical.not_not, itp, itn, ck_t]
end RO
