/-! The needs, gathered. -/
def needs (N : Int → Int) (v : Int) : Prop := ∃ s h, (0 ≤ s ∧ s < N 2) ∧ (0 ≤ h ∧ h < 24) ∧ seeS N (N (254 + 2 * s)) h = v ∧ ¬ v = 0
def GN (N : Int → Int) (s h : Int) (q : Int → Int) (t : Int) : Prop := 0 ≤ t ∧ (∀ i, 0 ≤ i → i < t → 1 ≤ q i ∧ q i < 256 ∧ needs N (q i)) ∧ (∀ i j, 0 ≤ i → i < j → j < t → ¬ q i = q j) ∧ (∀ s' h', 0 ≤ s' → 0 ≤ h' → h' < 24 → (s' < s ∨ (s' = s ∧ h' < h)) → seeS N (N (254 + 2 * s')) h' = 0 ∨ ∃ i, 0 ≤ i ∧ i < t ∧ q i = seeS N (N (254 + 2 * s')) h')
theorem GN.t_le {N : Int → Int} {s h t : Int} {q : Int → Int} (g : GN N s h q t) : t ≤ 255 := by
  apply Classical.byContradiction
  intro hc
  obtain ⟨i, j, h1, h2, h3⟩ := pigeon 255 (fun i => (q i).toNat - 1) (fun i hi => by
    have := g.2.1 i (by omega) (by omega)
    omega)
  have a := g.2.1 i (by omega) (by omega)
  have b := g.2.1 j (by omega) (by omega)
  exact g.2.2.1 i j (by omega) (by omega) (by omega) (by omega)
theorem seeS_b {N : Int → Int} {c h : Int} (b6 : 0 ≤ N 6 ∧ N 6 ≤ 8) : 0 ≤ seeS N c h ∧ seeS N c h < 2 ^ (N 6).toNat ∧ seeS N c h < 256 := by
  have b := bset (P := seeP N c h) (n := N 6) b6.1 (by omega)
  have e1 : seeS N c h = itr (fun s b => cif (seeP N c h s) (jor b (jshl 1 s)) b) 0 (N 6).toNat 0 := rfl
  rw [← e1] at b
  refine ⟨b.1.1, b.1.2, ?_⟩
  have : N 6 = 0 ∨ N 6 = 1 ∨ N 6 = 2 ∨ N 6 = 3 ∨ N 6 = 4 ∨ N 6 = 5 ∨ N 6 = 6 ∨ N 6 = 7 ∨ N 6 = 8 := by omega
  have c := b.1.2
  rcases this with q | q | q | q | q | q | q | q | q <;> rw [q] at c <;> exact Int.lt_of_lt_of_le c (by decide)
section GN
variable {e : List Int32 × Value} {d : Nat} {m : zMm}
theorem gn_inner {s : Int} (hI : Inv m) (s0 : 0 ≤ s) (s1 : s < m 247 2) : ∀ (j : Nat) (h t : Int) (m1 : zMm) (u5 : Value), h + j = 24 → 0 ≤ h → GN (m 247) s h (m1 207) t → Rng m1 → (∀ k', ¬ k' = 207 → m1 k' = m k') → ∃ (t' : Int) (m2 : zMm) (u5' : Value), Z e (d + 4) 59 34 [.ref 206, .int (iI t), .int (iI s), .int (iI (m 247 (254 + 2 * s))), .int (iI h), u5] [] m1 = Z e (d + 4) 59 34 [.ref 206, .int (iI t'), .int (iI s), .int (iI (m 247 (254 + 2 * s))), .int (iI 24), u5'] [] m2 ∧ GN (m 247) s 24 (m2 207) t' ∧ Rng m2 ∧ (∀ k', ¬ k' = 207 → m2 k' = m k') := by
  obtain ⟨hr, ⟨iN, iG, iP, iH, iS, iD, iT, iO, iU, iR, iV⟩, iK, iL, iF, iB, iA, iW, iX⟩ := id hI
  have bN := iN
  unfold cNum at bN
  have q := iS s s0 s1
  have b6 : 0 ≤ m 247 6 ∧ m 247 6 ≤ 8 := bN.2.2.2.2.2.2.1.2
  intro j
  induction j with
  | zero =>
    intro h t m1 u5 hh h0 hg r1 fr
    have : h = 24 := by omega
    subst this
    exact ⟨t, m1, u5, rfl, hg, r1, fr⟩
  | succ j ih =>
    intro h t m1 u5 hh h0 hg r1 fr
    have e247 : m1 247 = m 247 := fr 247 (by decide)
    have hI1 : Inv m1 := Inv_scr hI r1 (fun k g => fr k (by unfold scr at g; omega))
    have ps := P_seers (e := e) (d := d) (m := m1) (c := m 247 (254 + 2 * s)) (h := h) r1 hI1.2.1.1 hI1.2.1.2.2.2.2.2.2.2.1 q.1.2.1 q.1.2.2 h0 (by omega)
    rw [e247] at ps
    have sb := seeS_b (N := m 247) (c := m 247 (254 + 2 * s)) (h := h) b6
    have ws : wr (seeS (m 247) (m 247 (254 + 2 * s)) h) = seeS (m 247) (m 247 (254 + 2 * s)) h := wr_of (by omega) (by omega)
    have tl := hg.t_le
    have t0 := hg.1
    have nd := isNeeded_ok (e := e) (d := d + 3) (m := m1) (x := seeS (m 247) (m 247 (254 + 2 * s)) h) (t := t) r1 ws t0 (by omega)
    have old : (seeS (m 247) (m 247 (254 + 2 * s)) h = 0 ∨ ∃ i, 0 ≤ i ∧ i < t ∧ m1 207 i = seeS (m 247) (m 247 (254 + 2 * s)) h) → GN (m 247) s (h + 1) (m1 207) t := fun z => ⟨t0, hg.2.1, hg.2.2.1, fun s' h' g1 g2 g3 g4 => by
      by_cases c : s' = s ∧ h' = h
      · rw [c.1, c.2]; exact z
      · exact hg.2.2.2 s' h' g1 g2 g3 (by omega)⟩
    by_cases c1 : seeS (m 247) (m 247 (254 + 2 * s)) h = 0
    · obtain ⟨t', m2, u5', g1, g2⟩ := ih (h + 1) t m1 (.int (iI 0)) (by omega) (by omega) (old (Or.inl c1)) r1 fr
      refine ⟨t', m2, u5', ?_, g2⟩
      rw [← g1]
      refine (b_59_34).trans ?_
      rw [c1] at ps
      simp (disch := first | omega | (simp (disch := first | decide | omega) only [um_k, um_e, um_i, uz_k]; omega) | exact cat_i | exact cat_u | exact cat_r | assumption | exact rfl) only [ps, b_59_48, wr_of, ↓reduceIte, ck_T, lt_T, lt_F, le_T, le_F, eq_T, eq_F, and_true, true_and, and_false, false_and, or_true, true_or, or_false, false_or, and_self, or_self, not_true_eq_false, not_false_eq_true, implies_true, forall_const, true_implies, false_implies, ri_k, rn_k, rr_k, wr_bi, bi_e0, bi_e1, bi_T, bi_F, Classical.not_not, itp, itn, ck_t]
    · by_cases c2 : ∃ i, 0 ≤ i ∧ i < t ∧ m1 207 i = seeS (m 247) (m 247 (254 + 2 * s)) h
      · obtain ⟨t', m2, u5', g1, g2⟩ := ih (h + 1) t m1 (.int (iI (seeS (m 247) (m 247 (254 + 2 * s)) h))) (by omega) (by omega) (old (Or.inr c2)) r1 fr
        refine ⟨t', m2, u5', ?_, g2⟩
        rw [← g1]
        refine (b_59_34).trans ?_
        rw [bi_t c2] at nd
        simp (disch := first | omega | (simp (disch := first | decide | omega) only [um_k, um_e, um_i, uz_k]; omega) | exact cat_i | exact cat_u | exact cat_r | assumption | exact rfl) only [ps, b_59_48, ws, c1, nd, b_59_62, wr_of, ↓reduceIte, ck_T, lt_T, lt_F, le_T, le_F, eq_T, eq_F, and_true, true_and, and_false, false_and, or_true, true_or, or_false, false_or, and_self, or_self, not_true_eq_false, not_false_eq_true, implies_true, forall_const, true_implies, false_implies, ri_k, rn_k, rr_k, wr_bi, bi_e0, bi_e1, bi_T, bi_F, Classical.not_not, itp, itn, ck_t]
      · have qq : (um m1 207 t (seeS (m 247) (m 247 (254 + 2 * s)) h)) 207 = up (m1 207) t (seeS (m 247) (m 247 (254 + 2 * s)) h) := by
          funext i
          unfold um up
          by_cases hi : i = t <;> simp [hi]
        obtain ⟨t', m2, u5', g1, g2⟩ := ih (h + 1) (t + 1) (um m1 207 t (seeS (m 247) (m 247 (254 + 2 * s)) h)) (.int (iI (seeS (m 247) (m 247 (254 + 2 * s)) h))) (by omega) (by omega) (by
          rw [qq]
          refine ⟨by omega, fun i i0 i1 => ?_, fun i k i0 i1 i2 => ?_, fun s' h' g1 g2 g3 g4 => ?_⟩
          · by_cases hi : i = t
            · rw [hi, up_s]
              exact ⟨by omega, sb.2.2, s, h, ⟨s0, s1⟩, ⟨h0, by omega⟩, rfl, c1⟩
            · rw [up_n hi]
              exact hg.2.1 i i0 (by omega)
          · rw [up_n (show ¬ i = t by omega)]
            by_cases hk : k = t
            · rw [hk, up_s]
              exact fun z => c2 ⟨i, i0, by omega, z⟩
            · rw [up_n hk]
              exact hg.2.2.1 i k i0 i1 (by omega)
          · by_cases c : s' = s ∧ h' = h
            · rw [c.1, c.2]
              exact Or.inr ⟨t, t0, by omega, up_s⟩
            · rcases hg.2.2.2 s' h' g1 g2 g3 (by omega) with z | ⟨i, i0, i1, i2⟩
              · exact Or.inl z
              · exact Or.inr ⟨i, i0, by omega, by rw [up_n (by omega)]; exact i2⟩) (r1.um ws) (fun k' g => by rw [um_r g]; exact fr k' g)
        refine ⟨t', m2, u5', ?_, g2⟩
        rw [← g1]
        refine (b_59_34).trans ?_
        rw [bi_f c2] at nd
        simp (disch := first | omega | (simp (disch := first | decide | omega) only [um_k, um_e, um_i, uz_k]; omega) | exact cat_i | exact cat_u | exact cat_r | assumption | exact rfl) only [ps, b_59_48, ws, c1, nd, b_59_62, wr_of, ↓reduceIte, ck_T, lt_T, lt_F, le_T, le_F, eq_T, eq_F, and_true, true_and, and_false, false_and, or_true, true_or, or_false, false_or, and_self, or_self, not_true_eq_false, not_false_eq_true, implies_true, forall_const, true_implies, false_implies, ri_k, rn_k, rr_k, wr_bi, bi_e0, bi_e1, bi_T, bi_F, Classical.not_not, itp, itn, ck_t]
theorem gatherNeeds_ok (hI : Inv m) : ∃ (t : Int) (m2 : zMm), Z e (d + 4) 59 0 [.ref 206, .retAddr 0, .retAddr 0, .retAddr 0, .retAddr 0, .retAddr 0] [] m = ri t m2 ∧ GN (m 247) (m 247 2) 0 (m2 207) t ∧ Rng m2 ∧ (∀ k', ¬ k' = 207 → m2 k' = m k') := by
  obtain ⟨hr, ⟨iN, iG, iP, iH, iS, iD, iT, iO, iU, iR, iV⟩, iK, iL, iF, iB, iA, iW, iX⟩ := id hI
  have bN := iN
  unfold cNum at bN
  have : ∀ (j : Nat) (s t : Int) (m1 : zMm) (u3 u4 u5 : Value), s + j = m 247 2 → 0 ≤ s → GN (m 247) s 0 (m1 207) t → Rng m1 → (∀ k', ¬ k' = 207 → m1 k' = m k') → ∃ (t' : Int) (m2 : zMm), Z e (d + 4) 59 4 [.ref 206, .int (iI t), .int (iI s), u3, u4, u5] [] m1 = ri t' m2 ∧ GN (m 247) (m 247 2) 0 (m2 207) t' ∧ Rng m2 ∧ (∀ k', ¬ k' = 207 → m2 k' = m k') := by
    intro j
    induction j with
    | zero =>
      intro s t m1 u3 u4 u5 hs s0 hg r1 fr
      have : s = m 247 2 := by omega
      rw [this] at hg
      have f6 : m1 6 = m 6 := fr 6 (by decide)
      refine ⟨t, m1, ?_, hg, r1, fr⟩
      refine (b_59_4).trans ?_
      simp (disch := first | omega | (simp (disch := first | decide | omega) only [um_k, um_e, um_i, uz_k]; omega) | exact cat_i | exact cat_u | exact cat_r | assumption | exact rfl) only [f6, hr _ _, wr_of, ↓reduceIte, ck_T, lt_T, lt_F, le_T, le_F, eq_T, eq_F, and_true, true_and, and_false, false_and, or_true, true_or, or_false, false_or, and_self, or_self, not_true_eq_false, not_false_eq_true, implies_true, forall_const, true_implies, false_implies, ri_k, rn_k, rr_k, wr_bi, bi_e0, bi_e1, bi_T, bi_F, Classical.not_not, itp, itn, ck_t]
    | succ j ih =>
      intro s t m1 u3 u4 u5 hs s0 hg r1 fr
      have q := iS s s0 (by omega)
      have f6 : m1 6 = m 6 := fr 6 (by decide)
      have f7 : m1 7 = m 7 := fr 7 (by decide)
      have g6 := get_6 (e := e) (d := d + 3) (m := m1) (i := s) (j := 0) (by rw [f6]; omega) (by rw [f6]; omega) s0 (by rw [f6]; omega) (by decide) (by decide)
      rw [f7, q.1.1] at g6
      obtain ⟨t1, m2, v5, a1, a2, a3, a4⟩ := gn_inner (e := e) (d := d) hI s0 (by omega) 24 0 t m1 u5 (by omega) (by omega) hg r1 fr
      obtain ⟨t2, m3, b1, b2⟩ := ih (s + 1) t1 m2 (.int (iI (m 247 (254 + 2 * s)))) (.int (iI 24)) v5 (by omega) (by omega) ⟨a2.1, a2.2.1, a2.2.2.1, fun s' h' g1 g2 g3 g4 => a2.2.2.2 s' h' g1 g2 g3 (by omega)⟩ a3 a4
      refine ⟨t2, m3, ?_, b2⟩
      rw [← b1]
      refine (b_59_4).trans ?_
      simp (disch := first | omega | (simp (disch := first | decide | omega) only [um_k, um_e, um_i, uz_k]; omega) | exact cat_i | exact cat_u | exact cat_r | assumption | exact rfl) only [f6, hr _ _, g6, b_59_30, wr_of, ↓reduceIte, ck_T, lt_T, lt_F, le_T, le_F, eq_T, eq_F, and_true, true_and, and_false, false_and, or_true, true_or, or_false, false_or, and_self, or_self, not_true_eq_false, not_false_eq_true, implies_true, forall_const, true_implies, false_implies, ri_k, rn_k, rr_k, wr_bi, bi_e0, bi_e1, bi_T, bi_F, Classical.not_not, itp, itn, ck_t]
      rw [a1]
      refine (b_59_34).trans ?_
      simp (disch := first | omega | (simp (disch := first | decide | omega) only [um_k, um_e, um_i, uz_k]; omega) | exact cat_i | exact cat_u | exact cat_r | assumption | exact rfl) only [wr_of, ↓reduceIte, ck_T, lt_T, lt_F, le_T, le_F, eq_T, eq_F, and_true, true_and, and_false, false_and, or_true, true_or, or_false, false_or, and_self, or_self, not_true_eq_false, not_false_eq_true, implies_true, forall_const, true_implies, false_implies, ri_k, rn_k, rr_k, wr_bi, bi_e0, bi_e1, bi_T, bi_F, Classical.not_not, itp, itn, ck_t]
  rw [b_59_0]
  exact this (m 247 2).toNat 0 0 m (.retAddr 0) (.retAddr 0) (.retAddr 0) (by omega) (by omega) ⟨by decide, fun i _ _ => by omega, fun i j _ _ _ => by omega, fun s' h' _ _ _ _ => by omega⟩ hr (fun _ _ => rfl)
end GN
