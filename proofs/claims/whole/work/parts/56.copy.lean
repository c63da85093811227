/-! Copies of the world. -/
section CP
variable {e : List Int32 × Value} {d : Nat} {m : zMm}
theorem uc_k {k0 k1 k : Nat} {sp dp n i : Int} (h : ¬ k = k1) : uc m k0 sp k1 dp n k i = m k i := if_neg (fun q => h q.1)
theorem uc_r {k0 k1 k : Nat} {sp dp n : Int} (h : ¬ k = k1) : uc m k0 sp k1 dp n k = m k := funext fun _ => uc_k h
theorem uc_in {k0 k1 : Nat} {n i : Int} (h0 : 0 ≤ i) (h1 : i < n) : uc m k0 0 k1 0 n k1 i = m k0 i := by
  unfold uc
  rw [if_pos ⟨rfl, h0, by omega⟩]
  congr 1
  omega
theorem Rng.uc {k0 k1 : Nat} {sp dp n : Int} (h : Rng m) : Rng (uc m k0 sp k1 dp n) := by
  intro k i
  unfold Jvm.Pilot.CPeaceRingLaw_law_r3750_532f90.uc
  split
  · exact h _ _
  · exact h _ _
theorem evC_cg {a t g k : Int} {C C' : Int → Int} {i j x : Int} (h : ∀ q, i ≤ q → q < j → C' q = C q) : evC a t g k C' i j x = evC a t g k C i j x := by
  unfold evC
  refine itr_cg _ _ _ (fun q y h1 h2 => ?_)
  rw [h q h1 (by omega)]
theorem sem_cg {C C' : Int → Int} {i j : Int} {R : Int → Int} {i' j' : Int} (h : ∀ q, i ≤ q → q < j → C' q = C q) (hs : sem C i j R i' j') : sem C' i j R i' j' := by
  intro f k h1 h2
  obtain ⟨b, b1, b2, b3⟩ := hs f k h1 h2
  exact ⟨b, b1, fun x g1 g2 => by rw [evC_cg h]; exact b2 x g1 g2, b3⟩
theorem vRow_cp {F F' : zMm} {N : Int → Int} {v : Int} (h0 : ∀ j, 0 ≤ j → j < 5 → F' (18 + 6 * v.toNat) j = F (18 + 6 * v.toNat) j) (h1 : ∀ j, 0 ≤ j → j < 10 → F' (18 + 6 * v.toNat + 1) j = F (18 + 6 * v.toNat + 1) j) (h2 : ∀ j, 0 ≤ j → j < 10 → F' (18 + 6 * v.toNat + 2) j = F (18 + 6 * v.toNat + 2) j) (h3 : ∀ j, 0 ≤ j → j < 10 → F' (18 + 6 * v.toNat + 3) j = F (18 + 6 * v.toNat + 3) j) (h4 : ∀ j, 0 ≤ j → j < 10 → F' (18 + 6 * v.toNat + 4) j = F (18 + 6 * v.toNat + 4) j) (h5 : ∀ j, 0 ≤ j → j < 100 → F' (18 + 6 * v.toNat + 5) j = F (18 + 6 * v.toNat + 5) j) (h : vRow F N v) : vRow F' N v := by
  unfold vRow at h ⊢
  obtain ⟨q1, q2, q3, q4, q5⟩ := h
  rw [h0 0 (by decide) (by decide), h0 1 (by decide) (by decide), h0 2 (by decide) (by decide), h0 3 (by decide) (by decide)]
  refine ⟨q1, q2, q3, q4, fun l g1 g2 => ?_⟩
  have ql := q5 l g1 g2
  unfold lRow at ql ⊢
  rw [h1 l g1 (by omega), h2 l g1 (by omega), h3 l g1 (by omega), h4 l g1 (by omega)]
  refine ⟨ql.1, ql.2.1, ql.2.2.1, ql.2.2.2.1, ?_⟩
  rcases ql.2.2.2.2 with q | ⟨q6, q7, q8⟩
  · exact Or.inl q
  · exact Or.inr ⟨q6, q7, sem_cg (fun q g3 g4 => h5 q (by have := ql.2.2.1; omega) (by have := ql.2.2.1; omega)) q8⟩
theorem Core_cp {F F' : zMm} {N : Int → Int} (h10 : F' 1 0 = F 1 0) (h11 : F' 1 1 = F 1 1) (h12 : F' 1 2 = F 1 2) (c4 : F' 4 3 = F 4 3) (c6 : F' 6 3 = F 6 3) (c8 : F' 8 3 = F 8 3) (c10 : F' 10 3 = F 10 3) (c12 : F' 12 3 = F 12 3) (c14 : F' 14 3 = F 14 3) (c16 : F' 16 3 = F 16 3) (g2 : ∀ c, 0 ≤ c → c < 100 → F' 2 c = F 2 c) (t5 : ∀ i, 0 ≤ i → i < F 4 3 * 18 → F' 5 i = F 5 i) (t7 : ∀ i, 0 ≤ i → i < F 6 3 * 2 → F' 7 i = F 7 i) (t9 : ∀ i, 0 ≤ i → i < F 8 3 * 6 → F' 9 i = F 9 i) (t11 : ∀ i, 0 ≤ i → i < F 10 3 * 3 → F' 11 i = F 11 i) (t13 : ∀ i, 0 ≤ i → i < F 12 3 * 7 → F' 13 i = F 13 i) (t15 : ∀ i, 0 ≤ i → i < F 14 3 * 3 → F' 15 i = F 15 i) (t17 : ∀ i, 0 ≤ i → i < F 16 3 * 3 → F' 17 i = F 17 i) (v0 : ∀ v, 0 ≤ v → v < F 1 2 → ∀ j, 0 ≤ j → j < 5 → F' (18 + 6 * v.toNat) j = F (18 + 6 * v.toNat) j) (v1 : ∀ v, 0 ≤ v → v < F 1 2 → ∀ q, 1 ≤ q → q ≤ 4 → ∀ j, 0 ≤ j → j < 10 → F' (18 + 6 * v.toNat + q) j = F (18 + 6 * v.toNat + q) j) (v5 : ∀ v, 0 ≤ v → v < F 1 2 → ∀ j, 0 ≤ j → j < 100 → F' (18 + 6 * v.toNat + 5) j = F (18 + 6 * v.toNat + 5) j) (h : Core F N) : Core F' N := by
  obtain ⟨iN, iG, iP, iH, iS, iD, iT, iO, iU, iR, iV⟩ := h
  have bN := iN
  unfold cNum at bN
  refine ⟨?_, ?_, ?_, ?_, ?_, ?_, ?_, ?_, ?_, ?_, ?_⟩
  · unfold cNum at iN ⊢
    rw [h10, h11, h12, c4, c6, c8, c10, c12, c14, c16]
    exact iN
  · intro c q1 q2
    rw [g2 c q1 q2]
    exact iG c q1 q2
  · intro p q1 q2
    exact pRow_cg (fun f _ _ => t5 _ (by omega) (by omega)) (fun _ _ _ => rfl) (iP p q1 q2)
  · intro p q1 q2
    exact hRow_cg (fun b _ _ => t5 _ (by omega) (by omega)) (Int.le_refl _) rfl (fun _ _ _ => rfl) (iH p q1 q2)
  · intro s q1 q2
    rw [t7 _ (by omega) (by omega), t7 _ (by omega) (by omega)]
    exact iS s q1 q2
  · intro q q1 q2
    exact dRow_cg (fun f _ _ => t9 _ (by omega) (by omega)) (Int.le_refl _) (Int.le_refl _) (fun _ _ _ => rfl) (iD q q1 q2)
  · intro q q1 q2
    exact tRow_cg (fun f _ _ => t13 _ (by omega) (by omega)) (Int.le_refl _) (Int.le_refl _) (fun _ _ _ => rfl) (iT q q1 q2)
  · intro q q1 q2
    exact oRow_cg (fun f _ _ => t15 _ (by omega) (by omega)) (fun _ _ _ => rfl) (iO q q1 q2)
  · intro s q1 q2
    have q := iU s q1 q2
    exact ⟨fun f g1 g2 => by rw [t17 _ (by omega) (by omega)]; exact q.1 f g1 g2, q.2⟩
  · intro s q1 q2
    have q := iR s q1 q2
    exact ⟨fun f g1 g2 => by rw [t11 _ (by omega) (by omega)]; exact q.1 f g1 g2, q.2⟩
  · refine ⟨fun v q1 q2 => ?_, iV.2⟩
    have b : v < F 1 2 := by omega
    exact vRow_cp (v0 v q1 b) (v1 v q1 b 1 (by decide) (by decide)) (v1 v q1 b 2 (by decide) (by decide)) (v1 v q1 b 3 (by decide) (by decide)) (v1 v q1 b 4 (by decide) (by decide)) (v5 v q1 b) (iV.1 v q1 q2)
theorem T_copy {a ca w mx a2 ca2 : Nat} (hT : zTab a ca w mx) (hT2 : zTab a2 ca2 w mx) (hne : ¬ a2 = a) (h0 : 0 ≤ m a2 3) (h1 : m a2 3 ≤ mx) (h2 : (mx : Int) * w ≤ 1000) (hw : 0 ≤ (w : Int)) : Z e d 108 0 [.ref a, .ref a2] [] m = rn (uc (um m a 3 (m a2 3)) ca2 0 ca 0 (m a2 3 * w)) := by
  have hb : 0 ≤ m a2 3 * w ∧ m a2 3 * w ≤ (mx : Int) * w := ⟨Int.mul_nonneg h0 hw, Int.mul_le_mul_of_nonneg_right h1 hw⟩
  have hc : ((mx * w : Nat) : Int) = (mx : Int) * w := by simp
  rw [b_108_0 hT hT2, itn (fun q => q rfl), um_s, hc, wr_of (x := m a2 3 * w) (by omega) (by omega), show wr 0 = 0 from rfl, ck_t (by omega)]
/-- a version's copy -/
def vcp (m : zMm) (a a2 : Nat) : zMm := uc (uc (uc (uc (uc (um (um (um (um (um m a 0 (m a2 0)) a 1 (m a2 1)) a 2 (m a2 2)) a 3 (m a2 3)) a 4 (m a2 4)) (a2 + 1) 0 (a + 1) 0 10) (a2 + 2) 0 (a + 2) 0 10) (a2 + 3) 0 (a + 3) 0 10) (a2 + 4) 0 (a + 4) 0 10) (a2 + 5) 0 (a + 5) 0 100
theorem V_copy {a a2 : Nat} (hV : zVer a) (hV2 : zVer a2) (hne : ¬ a2 = a) : Z e d 111 0 [.ref a, .ref a2] [] m = rn (vcp m a a2) := by
  have h10 : wr 10 = 10 := rfl
  have h100 : wr 100 = 100 := rfl
  have h0 : wr 0 = 0 := rfl
  rw [b_111_0 hV hV2]
  simp only [h10, h100, h0]
  rw [ck_t (by decide), ck_t (by decide), ck_t (by decide), ck_t (by decide), ck_t (by decide)]
  unfold vcp
  simp only [um_k hne]
theorem vcp_k {a a2 k : Nat} (h : k < a ∨ a + 5 < k) : vcp m a a2 k = m k := by
  unfold vcp
  rw [uc_r (by omega), uc_r (by omega), uc_r (by omega), uc_r (by omega), uc_r (by omega), um_r (by omega), um_r (by omega), um_r (by omega), um_r (by omega), um_r (by omega)]
theorem vcp_0 {a a2 : Nat} {j : Int} (h0 : 0 ≤ j) (h1 : j < 5) : vcp m a a2 a j = m a2 j := by
  unfold vcp
  rw [uc_k (by omega), uc_k (by omega), uc_k (by omega), uc_k (by omega), uc_k (by omega)]
  have : j = 0 ∨ j = 1 ∨ j = 2 ∨ j = 3 ∨ j = 4 := by omega
  rcases this with q | q | q | q | q <;> subst q <;> simp (disch := first | omega | (simp (disch := first | decide | omega) only [um_k, um_e, um_i, uz_k]; omega) | exact cat_i | exact cat_u | exact cat_r | assumption | exact rfl) only [um_e, um_i]
theorem vcp_q {a a2 q : Nat} {j : Int} (hd : a2 + 5 < a ∨ a + 5 < a2) (hq : 1 ≤ q) (hq4 : q ≤ 4) (h0 : 0 ≤ j) (h1 : j < 10) : vcp m a a2 (a + q) j = m (a2 + q) j := by
  unfold vcp
  have : q = 1 ∨ q = 2 ∨ q = 3 ∨ q = 4 := by omega
  rcases this with r | r | r | r <;> subst r
  · rw [uc_k (by omega), uc_k (by omega), uc_k (by omega), uc_k (by omega), uc_in h0 h1, um_k (by omega), um_k (by omega), um_k (by omega), um_k (by omega), um_k (by omega)]
  · rw [uc_k (by omega), uc_k (by omega), uc_k (by omega), uc_in h0 h1, uc_k (by omega), um_k (by omega), um_k (by omega), um_k (by omega), um_k (by omega), um_k (by omega)]
  · rw [uc_k (by omega), uc_k (by omega), uc_in h0 h1, uc_k (by omega), uc_k (by omega), um_k (by omega), um_k (by omega), um_k (by omega), um_k (by omega), um_k (by omega)]
  · rw [uc_k (by omega), uc_in h0 h1, uc_k (by omega), uc_k (by omega), uc_k (by omega), um_k (by omega), um_k (by omega), um_k (by omega), um_k (by omega), um_k (by omega)]
theorem vcp_5 {a a2 : Nat} {j : Int} (hd : a2 + 5 < a ∨ a + 5 < a2) (h0 : 0 ≤ j) (h1 : j < 100) : vcp m a a2 (a + 5) j = m (a2 + 5) j := by
  unfold vcp
  rw [uc_in h0 h1, uc_k (by omega), uc_k (by omega), uc_k (by omega), uc_k (by omega), um_k (by omega), um_k (by omega), um_k (by omega), um_k (by omega), um_k (by omega)]
theorem Rng.vcp {a a2 : Nat} (h : Rng m) : Rng (vcp m a a2) := by
  unfold Jvm.Pilot.CPeaceRingLaw_law_r3750_532f90.vcp
  exact ((((((((((h.um (h _ _)).um (h _ _)).um (h _ _)).um (h _ _)).um (h _ _))).uc).uc).uc).uc).uc

/-- keep: world 90 from world 1 -/
theorem cp_90 (hr : Rng m) (n4 : 0 ≤ m 4 3 ∧ m 4 3 ≤ 16) (n6 : 0 ≤ m 6 3 ∧ m 6 3 ≤ 6) (n8 : 0 ≤ m 8 3 ∧ m 8 3 ≤ 24) (n10 : m 10 3 = 5) (n12 : 0 ≤ m 12 3 ∧ m 12 3 ≤ 16) (n14 : 0 ≤ m 14 3 ∧ m 14 3 ≤ 8) (n16 : 0 ≤ m 16 3 ∧ m 16 3 ≤ 16) (n2 : 0 ≤ m 1 2 ∧ m 1 2 ≤ 12) : ∃ m', Z e (d + 1) 120 0 [.ref 90, .ref 1, .retAddr 0] [] m = rn m' ∧ Rng m' ∧ (∀ k, k < 90 ∨ 179 ≤ k → m' k = m k) ∧ (m' 90 0 = m 1 0 ∧ m' 90 1 = m 1 1 ∧ m' 90 2 = m 1 2) ∧ (m' 93 3 = m 4 3 ∧ m' 95 3 = m 6 3 ∧ m' 97 3 = m 8 3 ∧ m' 99 3 = m 10 3 ∧ m' 101 3 = m 12 3 ∧ m' 103 3 = m 14 3 ∧ m' 105 3 = m 16 3) ∧ (∀ c, 0 ≤ c → c < 100 → m' 91 c = m 2 c) ∧ (∀ i, 0 ≤ i → i < m 4 3 * 18 → m' 94 i = m 5 i) ∧ (∀ i, 0 ≤ i → i < m 6 3 * 2 → m' 96 i = m 7 i) ∧ (∀ i, 0 ≤ i → i < m 8 3 * 6 → m' 98 i = m 9 i) ∧ (∀ i, 0 ≤ i → i < m 10 3 * 3 → m' 100 i = m 11 i) ∧ (∀ i, 0 ≤ i → i < m 12 3 * 7 → m' 102 i = m 13 i) ∧ (∀ i, 0 ≤ i → i < m 14 3 * 3 → m' 104 i = m 15 i) ∧ (∀ i, 0 ≤ i → i < m 16 3 * 3 → m' 106 i = m 17 i) ∧ (∀ v, 0 ≤ v → v < m 1 2 → (∀ j, 0 ≤ j → j < 5 → m' (107 + 6 * v.toNat) j = m (18 + 6 * v.toNat) j) ∧ (∀ q, 1 ≤ q → q ≤ 4 → ∀ j, 0 ≤ j → j < 10 → m' (107 + 6 * v.toNat + q) j = m (18 + 6 * v.toNat + q) j) ∧ (∀ j, 0 ≤ j → j < 100 → m' (107 + 6 * v.toNat + 5) j = m (18 + 6 * v.toNat + 5) j)) := by
  have w0 : wr 0 = 0 := rfl
  have w100 : wr 100 = 100 := rfl
  have loop : ∀ (k : Nat) (j : Int) (m1 : zMm), j + k = m 1 2 → 0 ≤ j → Rng m1 → m1 90 2 = m 1 2 → (∀ k, k < 107 ∨ 179 ≤ k → m1 k = (uc (um (um (um m 90 0 (m 1 0)) 90 1 (m 1 1)) 90 2 (m 1 2)) 2 0 91 0 100) k) → (∀ v, 0 ≤ v → v < j → (∀ j, 0 ≤ j → j < 5 → m1 (107 + 6 * v.toNat) j = m (18 + 6 * v.toNat) j) ∧ (∀ q, 1 ≤ q → q ≤ 4 → ∀ j, 0 ≤ j → j < 10 → m1 (107 + 6 * v.toNat + q) j = m (18 + 6 * v.toNat + q) j) ∧ (∀ j, 0 ≤ j → j < 100 → m1 (107 + 6 * v.toNat + 5) j = m (18 + 6 * v.toNat + 5) j)) → ∃ m2 j', Z e (d + 1) 120 41 [.ref 90, .ref 1, .int (iI j)] [] m1 = Z e (d + 1) 120 76 [.ref 90, .ref 1, .int (iI j')] [] m2 ∧ Rng m2 ∧ (∀ k, k < 107 ∨ 179 ≤ k → m2 k = (uc (um (um (um m 90 0 (m 1 0)) 90 1 (m 1 1)) 90 2 (m 1 2)) 2 0 91 0 100) k) ∧ (∀ v, 0 ≤ v → v < m 1 2 → (∀ j, 0 ≤ j → j < 5 → m2 (107 + 6 * v.toNat) j = m (18 + 6 * v.toNat) j) ∧ (∀ q, 1 ≤ q → q ≤ 4 → ∀ j, 0 ≤ j → j < 10 → m2 (107 + 6 * v.toNat + q) j = m (18 + 6 * v.toNat + q) j) ∧ (∀ j, 0 ≤ j → j < 100 → m2 (107 + 6 * v.toNat + 5) j = m (18 + 6 * v.toNat + 5) j)) := by
    intro k
    induction k with
    | zero =>
      intro j m1 hk hj r1 e2 fr cp
      refine ⟨m1, j, ?_, r1, fr, fun v g1 g2 => cp v g1 (by omega)⟩
      refine (b_120_41).trans ?_
      rw [e2]
      simp (disch := first | omega | (simp (disch := first | decide | omega) only [um_k, um_e, um_i, uz_k]; omega) | exact cat_i | exact cat_u | exact cat_r | assumption | exact rfl) only [wr_of, ↓reduceIte, ck_T, lt_T, lt_F, le_T, le_F, eq_T, eq_F, and_true, true_and, and_false, false_and, or_true, true_or, or_false, false_or, and_self, or_self, not_true_eq_false, not_false_eq_true, implies_true, forall_const, true_implies, false_implies, ri_k, rn_k, rr_k, wr_bi, bi_T, bi_F, Classical.not_not, itp, itn, ck_t]
    | succ k ih =>
      intro j m1 hk hj r1 e2 fr cp
      have hjj : 0 ≤ j ∧ j < 12 := by omega
      have hs : ∀ q, q ≤ 5 → m1 (18 + 6 * j.toNat + q) = m (18 + 6 * j.toNat + q) := fun q hq => by
        rw [fr _ (by omega), uc_r (by omega), um_r (by omega), um_r (by omega), um_r (by omega)]
      obtain ⟨m2, j', h1, h2, h3, h4⟩ := ih (j + 1) (vcp m1 (107 + 6 * j.toNat) (18 + 6 * j.toNat)) (by omega) (by omega) r1.vcp (by rw [vcp_k (by omega)]; exact e2) (fun k hk => by rw [vcp_k (by omega)]; exact fr k hk) (fun v g1 g2 => by
        by_cases hv : v = j
        · subst hv
          refine ⟨fun i g3 g4 => ?_, fun q q1 q4 i g3 g4 => ?_, fun i g3 g4 => ?_⟩
          · have hs0 := hs 0 (by decide)
            rw [Nat.add_zero] at hs0
            rw [vcp_0 g3 g4, hs0]
          · rw [vcp_q (by omega) q1 q4 g3 g4, hs q (by omega)]
          · rw [vcp_5 (by omega) g3 g4, hs 5 (by decide)]
        · have c := cp v g1 (by omega)
          refine ⟨fun i g3 g4 => ?_, fun q q1 q4 i g3 g4 => ?_, fun i g3 g4 => ?_⟩
          · rw [vcp_k (by omega)]; exact c.1 i g3 g4
          · rw [vcp_k (by omega)]; exact c.2.1 q q1 q4 i g3 g4
          · rw [vcp_k (by omega)]; exact c.2.2 i g3 g4)
      refine ⟨m2, j', ?_, h2, h3, h4⟩
      rw [← h1]
      refine (b_120_41).trans ?_
      rw [e2]
      simp (disch := first | omega | (simp (disch := first | decide | omega) only [um_k, um_e, um_i, uz_k]; omega) | exact cat_i | exact cat_u | exact cat_r | assumption | exact rfl) only [b_120_70, V_copy (zVer_1 hjj) (zVer_0 hjj) (show ¬ 18 + 6 * j.toNat = 107 + 6 * j.toNat by omega), wr_of, ↓reduceIte, ck_T, lt_T, lt_F, le_T, le_F, eq_T, eq_F, and_true, true_and, and_false, false_and, or_true, true_or, or_false, false_or, and_self, or_self, not_true_eq_false, not_false_eq_true, implies_true, forall_const, true_implies, false_implies, ri_k, rn_k, rr_k, wr_bi, bi_T, bi_F, Classical.not_not, itp, itn, ck_t]
  obtain ⟨mv, j', a1, a2, a3, a4⟩ := loop (m 1 2).toNat 0 (uc (um (um (um m 90 0 (m 1 0)) 90 1 (m 1 1)) 90 2 (m 1 2)) 2 0 91 0 100) (by omega) (by omega) (((hr.um (hr _ _)).um (hr _ _)).um (hr _ _)).uc (by rw [uc_k (by decide), um_s]) (fun _ _ => rfl) (fun v g1 g2 => by omega)
  have f : ∀ k, (k < 107 ∨ 179 ≤ k) → ¬ k = 90 → ¬ k = 91 → mv k = m k := fun k q1 q2 q3 => by
    rw [a3 k q1, uc_r q3, um_r q2, um_r q2, um_r q2]
  have t4 : ∀ m1 : zMm, m1 4 3 = m 4 3 → Z e d 108 0 [.ref 93, .ref 4] [] m1 = rn (uc (um m1 93 3 (m 4 3)) 5 0 94 0 (m 4 3 * 18)) := fun m1 q => by have := T_copy (e := e) (d := d) (m := m1) zTab_93 zTab_4 (by decide) (by omega) (by omega) (by decide) (by decide); rw [q] at this; exact this
  have t6 : ∀ m1 : zMm, m1 6 3 = m 6 3 → Z e d 108 0 [.ref 95, .ref 6] [] m1 = rn (uc (um m1 95 3 (m 6 3)) 7 0 96 0 (m 6 3 * 2)) := fun m1 q => by have := T_copy (e := e) (d := d) (m := m1) zTab_95 zTab_6 (by decide) (by omega) (by omega) (by decide) (by decide); rw [q] at this; exact this
  have t8 : ∀ m1 : zMm, m1 8 3 = m 8 3 → Z e d 108 0 [.ref 97, .ref 8] [] m1 = rn (uc (um m1 97 3 (m 8 3)) 9 0 98 0 (m 8 3 * 6)) := fun m1 q => by have := T_copy (e := e) (d := d) (m := m1) zTab_97 zTab_8 (by decide) (by omega) (by omega) (by decide) (by decide); rw [q] at this; exact this
  have t10 : ∀ m1 : zMm, m1 10 3 = m 10 3 → Z e d 108 0 [.ref 99, .ref 10] [] m1 = rn (uc (um m1 99 3 (m 10 3)) 11 0 100 0 (m 10 3 * 3)) := fun m1 q => by have := T_copy (e := e) (d := d) (m := m1) zTab_99 zTab_10 (by decide) (by omega) (by omega) (by decide) (by decide); rw [q] at this; exact this
  have t12 : ∀ m1 : zMm, m1 12 3 = m 12 3 → Z e d 108 0 [.ref 101, .ref 12] [] m1 = rn (uc (um m1 101 3 (m 12 3)) 13 0 102 0 (m 12 3 * 7)) := fun m1 q => by have := T_copy (e := e) (d := d) (m := m1) zTab_101 zTab_12 (by decide) (by omega) (by omega) (by decide) (by decide); rw [q] at this; exact this
  have t14 : ∀ m1 : zMm, m1 14 3 = m 14 3 → Z e d 108 0 [.ref 103, .ref 14] [] m1 = rn (uc (um m1 103 3 (m 14 3)) 15 0 104 0 (m 14 3 * 3)) := fun m1 q => by have := T_copy (e := e) (d := d) (m := m1) zTab_103 zTab_14 (by decide) (by omega) (by omega) (by decide) (by decide); rw [q] at this; exact this
  have t16 : ∀ m1 : zMm, m1 16 3 = m 16 3 → Z e d 108 0 [.ref 105, .ref 16] [] m1 = rn (uc (um m1 105 3 (m 16 3)) 17 0 106 0 (m 16 3 * 3)) := fun m1 q => by have := T_copy (e := e) (d := d) (m := m1) zTab_105 zTab_16 (by decide) (by omega) (by omega) (by decide) (by decide); rw [q] at this; exact this
  have fs : ∀ k, k = 4 ∨ k = 5 ∨ k = 6 ∨ k = 7 ∨ k = 8 ∨ k = 9 ∨ k = 10 ∨ k = 11 ∨ k = 12 ∨ k = 13 ∨ k = 14 ∨ k = 15 ∨ k = 16 ∨ k = 17 → mv k = m k := fun k q => f k (by omega) (by omega) (by omega)
  refine ⟨uc (um (uc (um (uc (um (uc (um (uc (um (uc (um (uc (um mv 93 3 (m 4 3)) 5 0 94 0 (m 4 3 * 18)) 95 3 (m 6 3)) 7 0 96 0 (m 6 3 * 2)) 97 3 (m 8 3)) 9 0 98 0 (m 8 3 * 6)) 99 3 (m 10 3)) 11 0 100 0 (m 10 3 * 3)) 101 3 (m 12 3)) 13 0 102 0 (m 12 3 * 7)) 103 3 (m 14 3)) 15 0 104 0 (m 14 3 * 3)) 105 3 (m 16 3)) 17 0 106 0 (m 16 3 * 3), ?_, ?_, ?_, ?_, ?_, ?_, ?_, ?_, ?_, ?_, ?_, ?_, ?_, ?_⟩
  · rw [b_120_0]
    simp only [um_k (show ¬ 1 = 90 by decide), w0, w100]
    rw [ck_t (by decide), a1, b_120_76, t4 _ (by rw [fs _ (by decide)]), rn_k, b_120_87, t6 _ (by rw [uc_k (by decide), um_k (by decide), fs _ (by decide)]), rn_k, b_120_98, t8 _ (by rw [uc_k (by decide), um_k (by decide), uc_k (by decide), um_k (by decide), fs _ (by decide)]), rn_k, b_120_109, t10 _ (by rw [uc_k (by decide), um_k (by decide), uc_k (by decide), um_k (by decide), uc_k (by decide), um_k (by decide), fs _ (by decide)]), rn_k, b_120_120, t12 _ (by rw [uc_k (by decide), um_k (by decide), uc_k (by decide), um_k (by decide), uc_k (by decide), um_k (by decide), uc_k (by decide), um_k (by decide), fs _ (by decide)]), rn_k, b_120_131, t14 _ (by rw [uc_k (by decide), um_k (by decide), uc_k (by decide), um_k (by decide), uc_k (by decide), um_k (by decide), uc_k (by decide), um_k (by decide), uc_k (by decide), um_k (by decide), fs _ (by decide)]), rn_k, b_120_142, t16 _ (by rw [uc_k (by decide), um_k (by decide), uc_k (by decide), um_k (by decide), uc_k (by decide), um_k (by decide), uc_k (by decide), um_k (by decide), uc_k (by decide), um_k (by decide), uc_k (by decide), um_k (by decide), fs _ (by decide)]), rn_k, b_120_153]
  · exact ((((((((((((((a2.um (hr _ _)).uc).um (hr _ _)).uc).um (hr _ _)).uc).um (hr _ _)).uc).um (hr _ _)).uc).um (hr _ _)).uc).um (hr _ _)).uc)
  · intro k hk
    simp (disch := first | omega | (simp (disch := first | decide | omega) only [um_k, um_e, um_i, uz_k]; omega) | exact cat_i | exact cat_u | exact cat_r | assumption | exact rfl) only [uc_r, um_r]
    exact f k (by omega) (by omega) (by omega)
  · simp (disch := first | omega | (simp (disch := first | decide | omega) only [um_k, um_e, um_i, uz_k]; omega) | exact cat_i | exact cat_u | exact cat_r | assumption | exact rfl) only [uc_k, um_k]
    rw [a3 90 (by decide)]
    simp (disch := first | omega | (simp (disch := first | decide | omega) only [um_k, um_e, um_i, uz_k]; omega) | exact cat_i | exact cat_u | exact cat_r | assumption | exact rfl) only [uc_k, um_e, um_i, and_self]
  · simp (disch := first | omega | (simp (disch := first | decide | omega) only [um_k, um_e, um_i, uz_k]; omega) | exact cat_i | exact cat_u | exact cat_r | assumption | exact rfl) only [uc_k, um_k, um_e, and_self]
  · intro c g1 g2
    simp (disch := first | omega | (simp (disch := first | decide | omega) only [um_k, um_e, um_i, uz_k]; omega) | exact cat_i | exact cat_u | exact cat_r | assumption | exact rfl) only [uc_k, um_k]
    rw [a3 91 (by decide), uc_in g1 g2]
    simp (disch := first | omega | (simp (disch := first | decide | omega) only [um_k, um_e, um_i, uz_k]; omega) | exact cat_i | exact cat_u | exact cat_r | assumption | exact rfl) only [um_k]
  · intro i g1 g2
    simp (disch := first | omega | (simp (disch := first | decide | omega) only [um_k, um_e, um_i, uz_k]; omega) | exact cat_i | exact cat_u | exact cat_r | assumption | exact rfl) only [uc_k, um_k, uc_in g1 g2]
    rw [fs _ (by decide)]
  · intro i g1 g2
    simp (disch := first | omega | (simp (disch := first | decide | omega) only [um_k, um_e, um_i, uz_k]; omega) | exact cat_i | exact cat_u | exact cat_r | assumption | exact rfl) only [uc_k, um_k, uc_in g1 g2]
    rw [fs _ (by decide)]
  · intro i g1 g2
    simp (disch := first | omega | (simp (disch := first | decide | omega) only [um_k, um_e, um_i, uz_k]; omega) | exact cat_i | exact cat_u | exact cat_r | assumption | exact rfl) only [uc_k, um_k, uc_in g1 g2]
    rw [fs _ (by decide)]
  · intro i g1 g2
    simp (disch := first | omega | (simp (disch := first | decide | omega) only [um_k, um_e, um_i, uz_k]; omega) | exact cat_i | exact cat_u | exact cat_r | assumption | exact rfl) only [uc_k, um_k, uc_in g1 g2]
    rw [fs _ (by decide)]
  · intro i g1 g2
    simp (disch := first | omega | (simp (disch := first | decide | omega) only [um_k, um_e, um_i, uz_k]; omega) | exact cat_i | exact cat_u | exact cat_r | assumption | exact rfl) only [uc_k, um_k, uc_in g1 g2]
    rw [fs _ (by decide)]
  · intro i g1 g2
    simp (disch := first | omega | (simp (disch := first | decide | omega) only [um_k, um_e, um_i, uz_k]; omega) | exact cat_i | exact cat_u | exact cat_r | assumption | exact rfl) only [uc_k, um_k, uc_in g1 g2]
    rw [fs _ (by decide)]
  · intro i g1 g2
    simp (disch := first | omega | (simp (disch := first | decide | omega) only [um_k, um_e, um_i, uz_k]; omega) | exact cat_i | exact cat_u | exact cat_r | assumption | exact rfl) only [uc_k, um_k, uc_in g1 g2]
    rw [fs _ (by decide)]
  · intro v g1 g2
    have c := a4 v g1 g2
    refine ⟨fun j g3 g4 => ?_, fun q q1 q4 j g3 g4 => ?_, fun j g3 g4 => ?_⟩
    · simp (disch := first | omega | (simp (disch := first | decide | omega) only [um_k, um_e, um_i, uz_k]; omega) | exact cat_i | exact cat_u | exact cat_r | assumption | exact rfl) only [uc_k, um_k]
      exact c.1 j g3 g4
    · simp (disch := first | omega | (simp (disch := first | decide | omega) only [um_k, um_e, um_i, uz_k]; omega) | exact cat_i | exact cat_u | exact cat_r | assumption | exact rfl) only [uc_k, um_k]
      exact c.2.1 q q1 q4 j g3 g4
    · simp (disch := first | omega | (simp (disch := first | decide | omega) only [um_k, um_e, um_i, uz_k]; omega) | exact cat_i | exact cat_u | exact cat_r | assumption | exact rfl) only [uc_k, um_k]
      exact c.2.2 j g3 g4

/-- again: world 1 from world 90 -/
theorem cp_1 (hr : Rng m) (n4 : 0 ≤ m 93 3 ∧ m 93 3 ≤ 16) (n6 : 0 ≤ m 95 3 ∧ m 95 3 ≤ 6) (n8 : 0 ≤ m 97 3 ∧ m 97 3 ≤ 24) (n10 : m 99 3 = 5) (n12 : 0 ≤ m 101 3 ∧ m 101 3 ≤ 16) (n14 : 0 ≤ m 103 3 ∧ m 103 3 ≤ 8) (n16 : 0 ≤ m 105 3 ∧ m 105 3 ≤ 16) (n2 : 0 ≤ m 90 2 ∧ m 90 2 ≤ 12) : ∃ m', Z e (d + 1) 120 0 [.ref 1, .ref 90, .retAddr 0] [] m = rn m' ∧ Rng m' ∧ (∀ k, k < 1 ∨ 90 ≤ k → m' k = m k) ∧ (m' 1 0 = m 90 0 ∧ m' 1 1 = m 90 1 ∧ m' 1 2 = m 90 2) ∧ (m' 4 3 = m 93 3 ∧ m' 6 3 = m 95 3 ∧ m' 8 3 = m 97 3 ∧ m' 10 3 = m 99 3 ∧ m' 12 3 = m 101 3 ∧ m' 14 3 = m 103 3 ∧ m' 16 3 = m 105 3) ∧ (∀ c, 0 ≤ c → c < 100 → m' 2 c = m 91 c) ∧ (∀ i, 0 ≤ i → i < m 93 3 * 18 → m' 5 i = m 94 i) ∧ (∀ i, 0 ≤ i → i < m 95 3 * 2 → m' 7 i = m 96 i) ∧ (∀ i, 0 ≤ i → i < m 97 3 * 6 → m' 9 i = m 98 i) ∧ (∀ i, 0 ≤ i → i < m 99 3 * 3 → m' 11 i = m 100 i) ∧ (∀ i, 0 ≤ i → i < m 101 3 * 7 → m' 13 i = m 102 i) ∧ (∀ i, 0 ≤ i → i < m 103 3 * 3 → m' 15 i = m 104 i) ∧ (∀ i, 0 ≤ i → i < m 105 3 * 3 → m' 17 i = m 106 i) ∧ (∀ v, 0 ≤ v → v < m 90 2 → (∀ j, 0 ≤ j → j < 5 → m' (18 + 6 * v.toNat) j = m (107 + 6 * v.toNat) j) ∧ (∀ q, 1 ≤ q → q ≤ 4 → ∀ j, 0 ≤ j → j < 10 → m' (18 + 6 * v.toNat + q) j = m (107 + 6 * v.toNat + q) j) ∧ (∀ j, 0 ≤ j → j < 100 → m' (18 + 6 * v.toNat + 5) j = m (107 + 6 * v.toNat + 5) j)) := by
  have w0 : wr 0 = 0 := rfl
  have w100 : wr 100 = 100 := rfl
  have loop : ∀ (k : Nat) (j : Int) (m1 : zMm), j + k = m 90 2 → 0 ≤ j → Rng m1 → m1 1 2 = m 90 2 → (∀ k, k < 18 ∨ 90 ≤ k → m1 k = (uc (um (um (um m 1 0 (m 90 0)) 1 1 (m 90 1)) 1 2 (m 90 2)) 91 0 2 0 100) k) → (∀ v, 0 ≤ v → v < j → (∀ j, 0 ≤ j → j < 5 → m1 (18 + 6 * v.toNat) j = m (107 + 6 * v.toNat) j) ∧ (∀ q, 1 ≤ q → q ≤ 4 → ∀ j, 0 ≤ j → j < 10 → m1 (18 + 6 * v.toNat + q) j = m (107 + 6 * v.toNat + q) j) ∧ (∀ j, 0 ≤ j → j < 100 → m1 (18 + 6 * v.toNat + 5) j = m (107 + 6 * v.toNat + 5) j)) → ∃ m2 j', Z e (d + 1) 120 41 [.ref 1, .ref 90, .int (iI j)] [] m1 = Z e (d + 1) 120 76 [.ref 1, .ref 90, .int (iI j')] [] m2 ∧ Rng m2 ∧ (∀ k, k < 18 ∨ 90 ≤ k → m2 k = (uc (um (um (um m 1 0 (m 90 0)) 1 1 (m 90 1)) 1 2 (m 90 2)) 91 0 2 0 100) k) ∧ (∀ v, 0 ≤ v → v < m 90 2 → (∀ j, 0 ≤ j → j < 5 → m2 (18 + 6 * v.toNat) j = m (107 + 6 * v.toNat) j) ∧ (∀ q, 1 ≤ q → q ≤ 4 → ∀ j, 0 ≤ j → j < 10 → m2 (18 + 6 * v.toNat + q) j = m (107 + 6 * v.toNat + q) j) ∧ (∀ j, 0 ≤ j → j < 100 → m2 (18 + 6 * v.toNat + 5) j = m (107 + 6 * v.toNat + 5) j)) := by
    intro k
    induction k with
    | zero =>
      intro j m1 hk hj r1 e2 fr cp
      refine ⟨m1, j, ?_, r1, fr, fun v g1 g2 => cp v g1 (by omega)⟩
      refine (b_120_41r).trans ?_
      rw [e2]
      simp (disch := first | omega | (simp (disch := first | decide | omega) only [um_k, um_e, um_i, uz_k]; omega) | exact cat_i | exact cat_u | exact cat_r | assumption | exact rfl) only [wr_of, ↓reduceIte, ck_T, lt_T, lt_F, le_T, le_F, eq_T, eq_F, and_true, true_and, and_false, false_and, or_true, true_or, or_false, false_or, and_self, or_self, not_true_eq_false, not_false_eq_true, implies_true, forall_const, true_implies, false_implies, ri_k, rn_k, rr_k, wr_bi, bi_T, bi_F, Classical.not_not, itp, itn, ck_t]
    | succ k ih =>
      intro j m1 hk hj r1 e2 fr cp
      have hjj : 0 ≤ j ∧ j < 12 := by omega
      have hs : ∀ q, q ≤ 5 → m1 (107 + 6 * j.toNat + q) = m (107 + 6 * j.toNat + q) := fun q hq => by
        rw [fr _ (by omega), uc_r (by omega), um_r (by omega), um_r (by omega), um_r (by omega)]
      obtain ⟨m2, j', h1, h2, h3, h4⟩ := ih (j + 1) (vcp m1 (18 + 6 * j.toNat) (107 + 6 * j.toNat)) (by omega) (by omega) r1.vcp (by rw [vcp_k (by omega)]; exact e2) (fun k hk => by rw [vcp_k (by omega)]; exact fr k hk) (fun v g1 g2 => by
        by_cases hv : v = j
        · subst hv
          refine ⟨fun i g3 g4 => ?_, fun q q1 q4 i g3 g4 => ?_, fun i g3 g4 => ?_⟩
          · have hs0 := hs 0 (by decide)
            rw [Nat.add_zero] at hs0
            rw [vcp_0 g3 g4, hs0]
          · rw [vcp_q (by omega) q1 q4 g3 g4, hs q (by omega)]
          · rw [vcp_5 (by omega) g3 g4, hs 5 (by decide)]
        · have c := cp v g1 (by omega)
          refine ⟨fun i g3 g4 => ?_, fun q q1 q4 i g3 g4 => ?_, fun i g3 g4 => ?_⟩
          · rw [vcp_k (by omega)]; exact c.1 i g3 g4
          · rw [vcp_k (by omega)]; exact c.2.1 q q1 q4 i g3 g4
          · rw [vcp_k (by omega)]; exact c.2.2 i g3 g4)
      refine ⟨m2, j', ?_, h2, h3, h4⟩
      rw [← h1]
      refine (b_120_41r).trans ?_
      rw [e2]
      simp (disch := first | omega | (simp (disch := first | decide | omega) only [um_k, um_e, um_i, uz_k]; omega) | exact cat_i | exact cat_u | exact cat_r | assumption | exact rfl) only [b_120_70r, V_copy (zVer_0 hjj) (zVer_1 hjj) (show ¬ 107 + 6 * j.toNat = 18 + 6 * j.toNat by omega), wr_of, ↓reduceIte, ck_T, lt_T, lt_F, le_T, le_F, eq_T, eq_F, and_true, true_and, and_false, false_and, or_true, true_or, or_false, false_or, and_self, or_self, not_true_eq_false, not_false_eq_true, implies_true, forall_const, true_implies, false_implies, ri_k, rn_k, rr_k, wr_bi, bi_T, bi_F, Classical.not_not, itp, itn, ck_t]
  obtain ⟨mv, j', a1, a2, a3, a4⟩ := loop (m 90 2).toNat 0 (uc (um (um (um m 1 0 (m 90 0)) 1 1 (m 90 1)) 1 2 (m 90 2)) 91 0 2 0 100) (by omega) (by omega) (((hr.um (hr _ _)).um (hr _ _)).um (hr _ _)).uc (by rw [uc_k (by decide), um_s]) (fun _ _ => rfl) (fun v g1 g2 => by omega)
  have f : ∀ k, (k < 18 ∨ 90 ≤ k) → ¬ k = 1 → ¬ k = 2 → mv k = m k := fun k q1 q2 q3 => by
    rw [a3 k q1, uc_r q3, um_r q2, um_r q2, um_r q2]
  have t4 : ∀ m1 : zMm, m1 93 3 = m 93 3 → Z e d 108 0 [.ref 4, .ref 93] [] m1 = rn (uc (um m1 4 3 (m 93 3)) 94 0 5 0 (m 93 3 * 18)) := fun m1 q => by have := T_copy (e := e) (d := d) (m := m1) zTab_4 zTab_93 (by decide) (by omega) (by omega) (by decide) (by decide); rw [q] at this; exact this
  have t6 : ∀ m1 : zMm, m1 95 3 = m 95 3 → Z e d 108 0 [.ref 6, .ref 95] [] m1 = rn (uc (um m1 6 3 (m 95 3)) 96 0 7 0 (m 95 3 * 2)) := fun m1 q => by have := T_copy (e := e) (d := d) (m := m1) zTab_6 zTab_95 (by decide) (by omega) (by omega) (by decide) (by decide); rw [q] at this; exact this
  have t8 : ∀ m1 : zMm, m1 97 3 = m 97 3 → Z e d 108 0 [.ref 8, .ref 97] [] m1 = rn (uc (um m1 8 3 (m 97 3)) 98 0 9 0 (m 97 3 * 6)) := fun m1 q => by have := T_copy (e := e) (d := d) (m := m1) zTab_8 zTab_97 (by decide) (by omega) (by omega) (by decide) (by decide); rw [q] at this; exact this
  have t10 : ∀ m1 : zMm, m1 99 3 = m 99 3 → Z e d 108 0 [.ref 10, .ref 99] [] m1 = rn (uc (um m1 10 3 (m 99 3)) 100 0 11 0 (m 99 3 * 3)) := fun m1 q => by have := T_copy (e := e) (d := d) (m := m1) zTab_10 zTab_99 (by decide) (by omega) (by omega) (by decide) (by decide); rw [q] at this; exact this
  have t12 : ∀ m1 : zMm, m1 101 3 = m 101 3 → Z e d 108 0 [.ref 12, .ref 101] [] m1 = rn (uc (um m1 12 3 (m 101 3)) 102 0 13 0 (m 101 3 * 7)) := fun m1 q => by have := T_copy (e := e) (d := d) (m := m1) zTab_12 zTab_101 (by decide) (by omega) (by omega) (by decide) (by decide); rw [q] at this; exact this
  have t14 : ∀ m1 : zMm, m1 103 3 = m 103 3 → Z e d 108 0 [.ref 14, .ref 103] [] m1 = rn (uc (um m1 14 3 (m 103 3)) 104 0 15 0 (m 103 3 * 3)) := fun m1 q => by have := T_copy (e := e) (d := d) (m := m1) zTab_14 zTab_103 (by decide) (by omega) (by omega) (by decide) (by decide); rw [q] at this; exact this
  have t16 : ∀ m1 : zMm, m1 105 3 = m 105 3 → Z e d 108 0 [.ref 16, .ref 105] [] m1 = rn (uc (um m1 16 3 (m 105 3)) 106 0 17 0 (m 105 3 * 3)) := fun m1 q => by have := T_copy (e := e) (d := d) (m := m1) zTab_16 zTab_105 (by decide) (by omega) (by omega) (by decide) (by decide); rw [q] at this; exact this
  have fs : ∀ k, k = 93 ∨ k = 94 ∨ k = 95 ∨ k = 96 ∨ k = 97 ∨ k = 98 ∨ k = 99 ∨ k = 100 ∨ k = 101 ∨ k = 102 ∨ k = 103 ∨ k = 104 ∨ k = 105 ∨ k = 106 → mv k = m k := fun k q => f k (by omega) (by omega) (by omega)
  refine ⟨uc (um (uc (um (uc (um (uc (um (uc (um (uc (um (uc (um mv 4 3 (m 93 3)) 94 0 5 0 (m 93 3 * 18)) 6 3 (m 95 3)) 96 0 7 0 (m 95 3 * 2)) 8 3 (m 97 3)) 98 0 9 0 (m 97 3 * 6)) 10 3 (m 99 3)) 100 0 11 0 (m 99 3 * 3)) 12 3 (m 101 3)) 102 0 13 0 (m 101 3 * 7)) 14 3 (m 103 3)) 104 0 15 0 (m 103 3 * 3)) 16 3 (m 105 3)) 106 0 17 0 (m 105 3 * 3), ?_, ?_, ?_, ?_, ?_, ?_, ?_, ?_, ?_, ?_, ?_, ?_, ?_, ?_⟩
  · rw [b_120_0r]
    simp only [um_k (show ¬ 90 = 1 by decide), w0, w100]
    rw [ck_t (by decide), a1, b_120_76r, t4 _ (by rw [fs _ (by decide)]), rn_k, b_120_87r, t6 _ (by rw [uc_k (by decide), um_k (by decide), fs _ (by decide)]), rn_k, b_120_98r, t8 _ (by rw [uc_k (by decide), um_k (by decide), uc_k (by decide), um_k (by decide), fs _ (by decide)]), rn_k, b_120_109r, t10 _ (by rw [uc_k (by decide), um_k (by decide), uc_k (by decide), um_k (by decide), uc_k (by decide), um_k (by decide), fs _ (by decide)]), rn_k, b_120_120r, t12 _ (by rw [uc_k (by decide), um_k (by decide), uc_k (by decide), um_k (by decide), uc_k (by decide), um_k (by decide), uc_k (by decide), um_k (by decide), fs _ (by decide)]), rn_k, b_120_131r, t14 _ (by rw [uc_k (by decide), um_k (by decide), uc_k (by decide), um_k (by decide), uc_k (by decide), um_k (by decide), uc_k (by decide), um_k (by decide), uc_k (by decide), um_k (by decide), fs _ (by decide)]), rn_k, b_120_142r, t16 _ (by rw [uc_k (by decide), um_k (by decide), uc_k (by decide), um_k (by decide), uc_k (by decide), um_k (by decide), uc_k (by decide), um_k (by decide), uc_k (by decide), um_k (by decide), uc_k (by decide), um_k (by decide), fs _ (by decide)]), rn_k, b_120_153r]
  · exact ((((((((((((((a2.um (hr _ _)).uc).um (hr _ _)).uc).um (hr _ _)).uc).um (hr _ _)).uc).um (hr _ _)).uc).um (hr _ _)).uc).um (hr _ _)).uc)
  · intro k hk
    simp (disch := first | omega | (simp (disch := first | decide | omega) only [um_k, um_e, um_i, uz_k]; omega) | exact cat_i | exact cat_u | exact cat_r | assumption | exact rfl) only [uc_r, um_r]
    exact f k (by omega) (by omega) (by omega)
  · simp (disch := first | omega | (simp (disch := first | decide | omega) only [um_k, um_e, um_i, uz_k]; omega) | exact cat_i | exact cat_u | exact cat_r | assumption | exact rfl) only [uc_k, um_k]
    rw [a3 1 (by decide)]
    simp (disch := first | omega | (simp (disch := first | decide | omega) only [um_k, um_e, um_i, uz_k]; omega) | exact cat_i | exact cat_u | exact cat_r | assumption | exact rfl) only [uc_k, um_e, um_i, and_self]
  · simp (disch := first | omega | (simp (disch := first | decide | omega) only [um_k, um_e, um_i, uz_k]; omega) | exact cat_i | exact cat_u | exact cat_r | assumption | exact rfl) only [uc_k, um_k, um_e, and_self]
  · intro c g1 g2
    simp (disch := first | omega | (simp (disch := first | decide | omega) only [um_k, um_e, um_i, uz_k]; omega) | exact cat_i | exact cat_u | exact cat_r | assumption | exact rfl) only [uc_k, um_k]
    rw [a3 2 (by decide), uc_in g1 g2]
    simp (disch := first | omega | (simp (disch := first | decide | omega) only [um_k, um_e, um_i, uz_k]; omega) | exact cat_i | exact cat_u | exact cat_r | assumption | exact rfl) only [um_k]
  · intro i g1 g2
    simp (disch := first | omega | (simp (disch := first | decide | omega) only [um_k, um_e, um_i, uz_k]; omega) | exact cat_i | exact cat_u | exact cat_r | assumption | exact rfl) only [uc_k, um_k, uc_in g1 g2]
    rw [fs _ (by decide)]
  · intro i g1 g2
    simp (disch := first | omega | (simp (disch := first | decide | omega) only [um_k, um_e, um_i, uz_k]; omega) | exact cat_i | exact cat_u | exact cat_r | assumption | exact rfl) only [uc_k, um_k, uc_in g1 g2]
    rw [fs _ (by decide)]
  · intro i g1 g2
    simp (disch := first | omega | (simp (disch := first | decide | omega) only [um_k, um_e, um_i, uz_k]; omega) | exact cat_i | exact cat_u | exact cat_r | assumption | exact rfl) only [uc_k, um_k, uc_in g1 g2]
    rw [fs _ (by decide)]
  · intro i g1 g2
    simp (disch := first | omega | (simp (disch := first | decide | omega) only [um_k, um_e, um_i, uz_k]; omega) | exact cat_i | exact cat_u | exact cat_r | assumption | exact rfl) only [uc_k, um_k, uc_in g1 g2]
    rw [fs _ (by decide)]
  · intro i g1 g2
    simp (disch := first | omega | (simp (disch := first | decide | omega) only [um_k, um_e, um_i, uz_k]; omega) | exact cat_i | exact cat_u | exact cat_r | assumption | exact rfl) only [uc_k, um_k, uc_in g1 g2]
    rw [fs _ (by decide)]
  · intro i g1 g2
    simp (disch := first | omega | (simp (disch := first | decide | omega) only [um_k, um_e, um_i, uz_k]; omega) | exact cat_i | exact cat_u | exact cat_r | assumption | exact rfl) only [uc_k, um_k, uc_in g1 g2]
    rw [fs _ (by decide)]
  · intro i g1 g2
    simp (disch := first | omega | (simp (disch := first | decide | omega) only [um_k, um_e, um_i, uz_k]; omega) | exact cat_i | exact cat_u | exact cat_r | assumption | exact rfl) only [uc_k, um_k, uc_in g1 g2]
    rw [fs _ (by decide)]
  · intro v g1 g2
    have c := a4 v g1 g2
    refine ⟨fun j g3 g4 => ?_, fun q q1 q4 j g3 g4 => ?_, fun j g3 g4 => ?_⟩
    · simp (disch := first | omega | (simp (disch := first | decide | omega) only [um_k, um_e, um_i, uz_k]; omega) | exact cat_i | exact cat_u | exact cat_r | assumption | exact rfl) only [uc_k, um_k]
      exact c.1 j g3 g4
    · simp (disch := first | omega | (simp (disch := first | decide | omega) only [um_k, um_e, um_i, uz_k]; omega) | exact cat_i | exact cat_u | exact cat_r | assumption | exact rfl) only [uc_k, um_k]
      exact c.2.1 q q1 q4 j g3 g4
    · simp (disch := first | omega | (simp (disch := first | decide | omega) only [um_k, um_e, um_i, uz_k]; omega) | exact cat_i | exact cat_u | exact cat_r | assumption | exact rfl) only [uc_k, um_k]
      exact c.2.2 j g3 g4
end CP
