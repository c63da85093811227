/-! watch: the reference, and both. -/
section WB
variable {e : List Int32 × Value} {d : Nat} {m : zMm}
theorem mw_inner (hI : Inv m) {b k : Int} (k0 : 0 ≤ k) (k1 : k < 256) : ∀ (j : Nat) (x : Int) (u5 : Value), x + j = 24 * m 247 2 → 0 ≤ x → (∀ s h, 0 ≤ s → s < m 247 2 → 0 ≤ h → h < 24 → 24 * s + h < x → seeS (m 247) (m 247 (254 + 2 * s)) h = 0 ∨ ¬ jand (seeS (m 247) (m 247 (254 + 2 * s)) h) k = 0) → ∃ (u4 u5' : Value), Z e (d + 3) 292 38 [.ref 246, .int (iI b), .int (iI k), .int (iI 1), .int (iI x), u5] [] m = Z e (d + 3) 292 107 [.ref 246, .int (iI b), .int (iI k), .int (iI (bi (meets (m 247) k))), u4, u5'] [] m := by
  obtain ⟨hr, ⟨iN, iG, iP, iH, iS, iD, iT, iO, iU, iR, iV⟩, iK, iL, iF, iB, iA, iW, iX⟩ := id hI
  have bN := iN
  unfold cNum at bN
  have b6 : 0 ≤ m 247 6 ∧ m 247 6 ≤ 8 := bN.2.2.2.2.2.2.1.2
  intro j
  induction j with
  | zero =>
    intro x u5 hx x0 h
    have hm : meets (m 247) k := fun s h' s0 s1 h0 h1 => h s h' s0 s1 h0 h1 (by omega)
    refine ⟨.int (iI x), u5, ?_⟩
    rw [bi_t hm]
    refine (b_292_38).trans ?_
    simp (disch := first | omega | (simp (disch := first | decide | omega) only [um_k, um_e, um_i, uz_k]; omega) | exact cat_i | exact cat_u | exact cat_r | assumption | exact rfl) only [wr_of, ↓reduceIte, ck_T, lt_T, lt_F, le_T, le_F, eq_T, eq_F, and_true, true_and, and_false, false_and, or_true, true_or, or_false, false_or, and_self, or_self, not_true_eq_false, not_false_eq_true, implies_true, forall_const, true_implies, false_implies, ri_k, rn_k, rr_k, wr_bi, bi_e0, bi_e1, bi_T, bi_F, Classical.not_not, itp, itn, ck_t]
  | succ j ih =>
    intro x u5 hx x0 h
    have xs : 0 ≤ x / 24 ∧ x / 24 < m 247 2 := by omega
    have q := iS (x / 24) xs.1 xs.2
    have sn := M_seenBy (e := e) (d := d) (m := m) (c := m 247 (254 + 2 * (x / 24))) (h := x % 24) hr b6 (pos_b iO) q.1.2.1 q.1.2.2 (by omega) (by omega)
    have sb := seeS_b (N := m 247) (c := m 247 (254 + 2 * (x / 24))) (h := x % 24) b6
    have ws : wr (seeS (m 247) (m 247 (254 + 2 * (x / 24))) (x % 24)) = seeS (m 247) (m 247 (254 + 2 * (x / 24))) (x % 24) := wr_of (by omega) (by omega)
    have wc : wr (254 + 2 * (x / 24)) = 254 + 2 * (x / 24) := wr_of (by omega) (by omega)
    have jd : jdiv x 24 = x / 24 := jdiv_n x0 (by omega) (by decide) (by decide)
    have jr : jrem x 24 = x % 24 := jrem_n x0 (by omega) (by decide) (by decide)
    have step : Z e (d + 3) 292 38 [.ref 246, .int (iI b), .int (iI k), .int (iI 1), .int (iI x), u5] [] m = Z e (d + 3) 292 38 [.ref 246, .int (iI b), .int (iI k), .int (iI (if seeS (m 247) (m 247 (254 + 2 * (x / 24))) (x % 24) = 0 ∨ ¬ jand (seeS (m 247) (m 247 (254 + 2 * (x / 24))) (x % 24)) k = 0 then 1 else 0)), .int (iI (x + 1)), .int (iI (seeS (m 247) (m 247 (254 + 2 * (x / 24))) (x % 24)))] [] m := by
      refine (b_292_38).trans ?_
      simp (disch := first | omega | (simp (disch := first | decide | omega) only [um_k, um_e, um_i, uz_k]; omega) | exact cat_i | exact cat_u | exact cat_r | assumption | exact rfl) only [jd, jr, wc, sn, wr_of, ↓reduceIte, ck_T, lt_T, lt_F, le_T, le_F, eq_T, eq_F, and_true, true_and, and_false, false_and, or_true, true_or, or_false, false_or, and_self, or_self, not_true_eq_false, not_false_eq_true, implies_true, forall_const, true_implies, false_implies, ri_k, rn_k, rr_k, wr_bi, bi_e0, bi_e1, bi_T, bi_F, Classical.not_not, itp, itn, ck_t]
      refine (b_292_81).trans ?_
      rw [ws]
    by_cases c : seeS (m 247) (m 247 (254 + 2 * (x / 24))) (x % 24) = 0 ∨ ¬ jand (seeS (m 247) (m 247 (254 + 2 * (x / 24))) (x % 24)) k = 0
    · rw [step, itp c]
      exact ih (x + 1) _ (by omega) (by omega) (fun s h' s0 s1 h0 h1 h2 => by
        by_cases z : 24 * s + h' = x
        · have e1 : x / 24 = s := by omega
          have e2 : x % 24 = h' := by omega
          rw [e1, e2] at c
          exact c
        · exact h s h' s0 s1 h0 h1 (by omega))
    · have hm : ¬ meets (m 247) k := fun z => c (z (x / 24) (x % 24) xs.1 xs.2 (by omega) (by omega))
      refine ⟨.int (iI (x + 1)), .int (iI (seeS (m 247) (m 247 (254 + 2 * (x / 24))) (x % 24))), ?_⟩
      rw [step, itn c, bi_f hm]
      refine (b_292_38).trans ?_
      simp (disch := first | omega | (simp (disch := first | decide | omega) only [um_k, um_e, um_i, uz_k]; omega) | exact cat_i | exact cat_u | exact cat_r | assumption | exact rfl) only [wr_of, ↓reduceIte, ck_T, lt_T, lt_F, le_T, le_F, eq_T, eq_F, and_true, true_and, and_false, false_and, or_true, true_or, or_false, false_or, and_self, or_self, not_true_eq_false, not_false_eq_true, implies_true, forall_const, true_implies, false_implies, ri_k, rn_k, rr_k, wr_bi, bi_e0, bi_e1, bi_T, bi_F, Classical.not_not, itp, itn, ck_t]
theorem mw_outer (hI : Inv m) : ∀ (j : Nat) (k b : Int) (u3 u4 u5 : Value), k + 1 = j → k < jshl 1 (m 247 6) → lwI (m 247) b (fun v => k < v) → ∃ w, Z e (d + 3) 292 14 [.ref 246, .int (iI b), .int (iI k), u3, u4, u5] [] m = ri w m ∧ lwI (m 247) w (fun _ => True) := by
  obtain ⟨hr, ⟨iN, iG, iP, iH, iS, iD, iT, iO, iU, iR, iV⟩, iK, iL, iF, iB, iA, iW, iX⟩ := id hI
  have bN := iN
  unfold cNum at bN
  have b6 : 0 ≤ m 247 6 ∧ m 247 6 ≤ 8 := bN.2.2.2.2.2.2.1.2
  have lb := L_b b6.1 b6.2
  intro j
  induction j with
  | zero =>
    intro k b u3 u4 u5 hk k1 h
    have : k = -1 := by omega
    subst this
    refine ⟨b, ?_, h.1, h.2.1, fun v v0 v1 _ => h.2.2 v v0 v1 (by omega)⟩
    refine (b_292_14).trans ?_
    simp (disch := first | omega | (simp (disch := first | decide | omega) only [um_k, um_e, um_i, uz_k]; omega) | exact cat_i | exact cat_u | exact cat_r | assumption | exact rfl) only [wr_of, ↓reduceIte, ck_T, lt_T, lt_F, le_T, le_F, eq_T, eq_F, and_true, true_and, and_false, false_and, or_true, true_or, or_false, false_or, and_self, or_self, not_true_eq_false, not_false_eq_true, implies_true, forall_const, true_implies, false_implies, ri_k, rn_k, rr_k, wr_bi, bi_e0, bi_e1, bi_T, bi_F, Classical.not_not, itp, itn, ck_t]
  | succ j ih =>
    intro k b u3 u4 u5 hk k1 h
    have q1 := M_bits (e := e) (d := d + 2) (m := m) (x := k) (by omega) (by omega)
    have hb0 := h.1.1
    have hb1 := h.1.2
    have q2 := M_bits (e := e) (d := d + 2) (m := m) (x := b) h.1.1 (by omega)
    have wk : wr (bc k) = bc k := wr_of (by omega) (by omega)
    have wb : wr (bc b) = bc b := wr_of (by omega) (by omega)
    have s1 : Z e (d + 3) 292 14 [.ref 246, .int (iI b), .int (iI k), u3, u4, u5] [] m = Z e (d + 3) 292 38 [.ref 246, .int (iI b), .int (iI k), .int (iI (if bc k ≤ bc b then 1 else 0)), .int (iI 0), u5] [] m := by
      refine (b_292_14).trans ?_
      simp (disch := first | omega | (simp (disch := first | decide | omega) only [um_k, um_e, um_i, uz_k]; omega) | exact cat_i | exact cat_u | exact cat_r | assumption | exact rfl) only [q1.1, b_292_22, q2.1, wr_of, ↓reduceIte, ck_T, lt_T, lt_F, le_T, le_F, eq_T, eq_F, and_true, true_and, and_false, false_and, or_true, true_or, or_false, false_or, and_self, or_self, not_true_eq_false, not_false_eq_true, implies_true, forall_const, true_implies, false_implies, ri_k, rn_k, rr_k, wr_bi, bi_e0, bi_e1, bi_T, bi_F, Classical.not_not, itp, itn, ck_t]
      refine (b_292_26).trans ?_
      rw [wk, wb]
    have keep : (¬ bc k ≤ bc b ∨ ¬ meets (m 247) k) → lwI (m 247) b (fun v => k - 1 < v) := fun z => ⟨h.1, h.2.1, fun v v0 v1 v2 v3 => by
      by_cases hv : v = k
      · rw [hv] at v3 ⊢
        rcases z with y | y
        · exact ⟨by omega, fun x => by omega⟩
        · exact absurd v3 y
      · exact h.2.2 v v0 v1 (by omega) v3⟩
    by_cases c1 : bc k ≤ bc b
    · obtain ⟨v4, v5, i1⟩ := mw_inner (e := e) (d := d) hI (b := b) (k := k) (by omega) (by omega) (24 * m 247 2).toNat 0 u5 (by omega) (by omega) (fun s h' s0 s1 h0 h1 h2 => by omega)
      by_cases c2 : meets (m 247) k
      · obtain ⟨w, w1, w2⟩ := ih (k - 1) k (.int (iI 1)) v4 v5 (by omega) (by omega) ⟨⟨by omega, k1⟩, c2, fun v v0 v1 v2 v3 => by
          by_cases hv : v = k
          · rw [hv]; exact ⟨Int.le_refl _, fun _ => Int.le_refl _⟩
          · have := h.2.2 v v0 v1 (by omega) v3
            exact ⟨by omega, fun z => by omega⟩⟩
        refine ⟨w, ?_, w2⟩
        rw [← w1, s1, itp c1, i1, bi_t c2]
        refine (b_292_107).trans ?_
        simp (disch := first | omega | (simp (disch := first | decide | omega) only [um_k, um_e, um_i, uz_k]; omega) | exact cat_i | exact cat_u | exact cat_r | assumption | exact rfl) only [wr_of, ↓reduceIte, ck_T, lt_T, lt_F, le_T, le_F, eq_T, eq_F, and_true, true_and, and_false, false_and, or_true, true_or, or_false, false_or, and_self, or_self, not_true_eq_false, not_false_eq_true, implies_true, forall_const, true_implies, false_implies, ri_k, rn_k, rr_k, wr_bi, bi_e0, bi_e1, bi_T, bi_F, Classical.not_not, itp, itn, ck_t]
        rfl
      · obtain ⟨w, w1, w2⟩ := ih (k - 1) b (.int (iI 0)) v4 v5 (by omega) (by omega) (keep (Or.inr c2))
        refine ⟨w, ?_, w2⟩
        rw [← w1, s1, itp c1, i1, bi_f c2]
        refine (b_292_107).trans ?_
        simp (disch := first | omega | (simp (disch := first | decide | omega) only [um_k, um_e, um_i, uz_k]; omega) | exact cat_i | exact cat_u | exact cat_r | assumption | exact rfl) only [wr_of, ↓reduceIte, ck_T, lt_T, lt_F, le_T, le_F, eq_T, eq_F, and_true, true_and, and_false, false_and, or_true, true_or, or_false, false_or, and_self, or_self, not_true_eq_false, not_false_eq_true, implies_true, forall_const, true_implies, false_implies, ri_k, rn_k, rr_k, wr_bi, bi_e0, bi_e1, bi_T, bi_F, Classical.not_not, itp, itn, ck_t]
        rfl
    · obtain ⟨w, w1, w2⟩ := ih (k - 1) b (.int (iI 0)) (.int (iI 0)) u5 (by omega) (by omega) (keep (Or.inl c1))
      refine ⟨w, ?_, w2⟩
      rw [← w1, s1, itn c1]
      refine (b_292_38).trans ?_
      simp (disch := first | omega | (simp (disch := first | decide | omega) only [um_k, um_e, um_i, uz_k]; omega) | exact cat_i | exact cat_u | exact cat_r | assumption | exact rfl) only [wr_of, ↓reduceIte, ck_T, lt_T, lt_F, le_T, le_F, eq_T, eq_F, and_true, true_and, and_false, false_and, or_true, true_or, or_false, false_or, and_self, or_self, not_true_eq_false, not_false_eq_true, implies_true, forall_const, true_implies, false_implies, ri_k, rn_k, rr_k, wr_bi, bi_e0, bi_e1, bi_T, bi_F, Classical.not_not, itp, itn, ck_t]
      refine (b_292_107).trans ?_
      simp (disch := first | omega | (simp (disch := first | decide | omega) only [um_k, um_e, um_i, uz_k]; omega) | exact cat_i | exact cat_u | exact cat_r | assumption | exact rfl) only [wr_of, ↓reduceIte, ck_T, lt_T, lt_F, le_T, le_F, eq_T, eq_F, and_true, true_and, and_false, false_and, or_true, true_or, or_false, false_or, and_self, or_self, not_true_eq_false, not_false_eq_true, implies_true, forall_const, true_implies, false_implies, ri_k, rn_k, rr_k, wr_bi, bi_e0, bi_e1, bi_T, bi_F, Classical.not_not, itp, itn, ck_t]
      rfl
theorem call_watch (hI : Inv m) : Both (Z e (d + 6) 176 0 [.ref 0] []) (Z e (d + 3) 292 0 [.ref 246, .retAddr 0, .retAddr 0, .retAddr 0, .retAddr 0, .retAddr 0] []) m := by
  obtain ⟨w, m2, a1, a2, a3, a4⟩ := P_watch (e := e) (d := d) hI
  have hI2 : Inv m2 := Inv_scr hI a3 (fun k g => a4 k (by unfold scr at g; omega))
  have e247 : m2 247 = m 247 := a4 247 (by decide)
  have bN := hI.2.1.1
  unfold cNum at bN
  have b6 : 0 ≤ m 247 6 ∧ m 247 6 ≤ 8 := bN.2.2.2.2.2.2.1.2
  have lb := L_b b6.1 b6.2
  obtain ⟨v, b1, b2⟩ := mw_outer (e := e) (d := d) hI2 (jshl 1 (m 247 6)).toNat (jshl 1 (m 247 6) - 1) (jshl 1 (m 247 6) - 1) (.retAddr 0) (.retAddr 0) (.retAddr 0) (by omega) (by rw [e247]; omega) (by
    rw [e247]
    exact ⟨⟨by omega, by omega⟩, meets_full b6, fun v v0 v1 v2 v3 => by omega⟩)
  rw [e247] at b2
  have : v = w := lw_u b2 a2
  subst this
  refine ⟨v, m2, m2, ?_, ?_, hI2⟩
  · simp (disch := first | omega | (simp (disch := first | decide | omega) only [um_k, um_e, um_i, uz_k]; omega) | exact cat_i | exact cat_u | exact cat_r | assumption | exact rfl) only [b_176_0, a1, b_176_7, wr_of, ↓reduceIte, ck_T, lt_T, lt_F, le_T, le_F, eq_T, eq_F, and_true, true_and, and_false, false_and, or_true, true_or, or_false, false_or, and_self, or_self, not_true_eq_false, not_false_eq_true, implies_true, forall_const, true_implies, false_implies, ri_k, rn_k, rr_k, wr_bi, bi_e0, bi_e1, bi_T, bi_F, Classical.not_not, itp, itn, ck_t]
  · rw [← b1, b_292_0, e247]
end WB
