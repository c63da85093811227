/-! gap. -/
theorem tb_ex {x : Int} (h0 : 0 ≤ x) (hx : ¬ x = 0) : ∃ h, 0 ≤ h ∧ tb x h := by
  apply Classical.byContradiction
  intro hc
  have : x.toNat = 0 := Nat.eq_of_testBit_eq (fun i => by
    rw [Nat.zero_testBit]
    cases hb : x.toNat.testBit i with
    | false => rfl
    | true => exact absurd ⟨(i : Int), by omega, by unfold tb; rw [Int.toNat_natCast]; exact hb⟩ hc)
  omega
theorem tb_lt {x h : Int} {n : Nat} (h1 : x.toNat < 2 ^ n) (h2 : 0 ≤ h) (ht : tb x h) : h < n := by
  apply Classical.byContradiction
  intro hc
  have : x.toNat.testBit h.toNat = false := Nat.testBit_lt_two_pow (Nat.lt_of_lt_of_le h1 (Nat.pow_le_pow_right (by decide) (by omega)))
  unfold tb at ht
  rw [this] at ht
  exact absurd ht (by decide)
def seen (N : Int → Int) (c h : Int) : Prop := ∃ p, 0 ≤ p ∧ p < N 6 ∧ seeP N c h p
theorem seen_S {N : Int → Int} {c h : Int} (b6 : 0 ≤ N 6 ∧ N 6 ≤ 8) : ¬ seeS N c h = 0 ↔ seen N c h := by
  have b := bset (P := seeP N c h) (n := N 6) b6.1 (by omega)
  constructor
  · intro hx
    obtain ⟨p, p0, p1⟩ := tb_ex (x := seeS N c h) b.1.1 hx
    have := (b.2 p p0).mp p1
    exact ⟨p, p0, this.1, this.2⟩
  · intro ⟨p, p0, p1, p2⟩ hx
    have := (b.2 p p0).mpr ⟨p1, p2⟩
    have hx' : itr (fun s b => cif (seeP N c h s) (jor b (jshl 1 s)) b) 0 (N 6).toNat 0 = 0 := hx
    rw [hx'] at this
    exact tb_0 this
section GP
variable {e : List Int32 × Value} {d : Nat} {m : zMm}
theorem P_clocks {c : Int} (hr : Rng m) (iN : cNum m (m 247)) (iO : cPos m (m 247)) (h0 : 0 ≤ c) (h1 : c < 100) : ∃ K, Z e (d + 3) 56 0 [.ref 206, .int (iI (c)), .retAddr 0, .retAddr 0] [] m = ri K m ∧ (0 ≤ K ∧ K < 16777216) ∧ ∀ h, 0 ≤ h → h < 24 → (tb K h ↔ seen (m 247) c h) := by
  have bN := iN
  unfold cNum at bN
  have key := lpG (F := fun i y (_ : Unit) => Z e (d + 3) 56 4 [.ref 206, .int (iI c), .int (iI y), .int (iI i)] [] m) (G := fun y => ri y m) (f := fun p b => cif (jfar (m 247 (1050 + 4 * p)) c ≤ m 247 (1050 + 4 * p + 1)) (jor b (m 15 (p * 3 + 2))) b) (I := fun i y => (0 ≤ y ∧ y < 16777216) ∧ ∀ h, 0 ≤ h → h < 24 → (tb y h ↔ ∃ p, 0 ≤ p ∧ p < i ∧ seeP (m 247) c h p)) (n := m 247 6) (by omega) 0 () ⟨by decide, fun h _ _ => ⟨fun q => absurd q tb_0, fun ⟨p, q1, q2, _⟩ => by omega⟩⟩
    (by
      intro i y u g1 g2 gI
      have q := iO i g1 g2
      have qb := q.2.2.2.2.1
      have qh := q.2.2.2.2.2
      by_cases c2 : jfar (m 247 (1050 + 4 * i)) c ≤ m 247 (1050 + 4 * i + 1)
      · rw [cif_t c2]
        have ob := jor_b (x := y) (y := m 15 (i * 3 + 2)) (n := 24) (by decide) gI.1.1 (by have := gI.1.2; exact this) qb.1 qb.2
        refine ⟨⟨(), ?_⟩, ⟨ob.1, ob.2⟩, fun h k0 k1 => ?_⟩
        · refine (b_56_4).trans ?_
          simp (disch := first | omega | (simp (disch := first | decide | omega) only [um_k, um_e, um_i, uz_k]; omega) | exact cat_i | exact cat_u | exact cat_r | assumption | exact rfl) only [b_56_24, b_56_40, get_14, hr _ _, P_reaches hr iN iO g1 g2 h0 h1, bi_t c2, wr_of, ↓reduceIte, ck_T, lt_T, lt_F, le_T, le_F, eq_T, eq_F, and_true, true_and, and_false, false_and, or_true, true_or, or_false, false_or, and_self, or_self, not_true_eq_false, not_false_eq_true, implies_true, forall_const, true_implies, false_implies, ri_k, rn_k, rr_k, wr_bi, bi_e0, bi_e1, bi_T, bi_F, Classical.not_not, itp, itn, ck_t]
        · rw [tb_or gI.1.1 (by omega) qb.1 (by omega), gI.2 h k0 k1]
          have e1 : tb (m 15 (i * 3 + 2)) h ↔ mann (m 247 (1050 + 4 * i + 2)) (m 247 (1050 + 4 * i + 3)) h := by
            have a1 := qh h k0 k1
            rw [jbit qb.1 (by omega) k0 (by omega)] at a1
            by_cases t : mann (m 247 (1050 + 4 * i + 2)) (m 247 (1050 + 4 * i + 3)) h
            · rw [bi_t t] at a1
              exact ⟨fun _ => t, fun _ => bi_e1.mp a1⟩
            · rw [bi_f t] at a1
              exact ⟨fun z => by rw [bi_t z] at a1; omega, fun z => absurd z t⟩
          rw [e1]
          constructor
          · rintro (⟨p, q1, q2, q3⟩ | q1)
            · exact ⟨p, q1, by omega, q3⟩
            · exact ⟨i, g1, by omega, q1, c2⟩
          · rintro ⟨p, q1, q2, q3⟩
            by_cases hp : p = i
            · rw [hp] at q3; exact Or.inr q3.1
            · exact Or.inl ⟨p, q1, by omega, q3⟩
      · rw [cif_f c2]
        refine ⟨⟨(), ?_⟩, gI.1, fun h k0 k1 => ?_⟩
        · refine (b_56_4).trans ?_
          simp (disch := first | omega | (simp (disch := first | decide | omega) only [um_k, um_e, um_i, uz_k]; omega) | exact cat_i | exact cat_u | exact cat_r | assumption | exact rfl) only [b_56_24, b_56_40, get_14, hr _ _, P_reaches hr iN iO g1 g2 h0 h1, bi_f c2, wr_of, ↓reduceIte, ck_T, lt_T, lt_F, le_T, le_F, eq_T, eq_F, and_true, true_and, and_false, false_and, or_true, true_or, or_false, false_or, and_self, or_self, not_true_eq_false, not_false_eq_true, implies_true, forall_const, true_implies, false_implies, ri_k, rn_k, rr_k, wr_bi, bi_e0, bi_e1, bi_T, bi_F, Classical.not_not, itp, itn, ck_t]
        · rw [gI.2 h k0 k1]
          constructor
          · rintro ⟨p, q1, q2, q3⟩
            exact ⟨p, q1, by omega, q3⟩
          · rintro ⟨p, q1, q2, q3⟩
            by_cases hp : p = i
            · rw [hp] at q3; exact absurd q3.2 c2
            · exact ⟨p, q1, by omega, q3⟩)
    (by
      intro y u gI
      refine (b_56_4).trans ?_
      simp (disch := first | omega | (simp (disch := first | decide | omega) only [um_k, um_e, um_i, uz_k]; omega) | exact cat_i | exact cat_u | exact cat_r | assumption | exact rfl) only [hr _ _, wr_of, ↓reduceIte, ck_T, lt_T, lt_F, le_T, le_F, eq_T, eq_F, and_true, true_and, and_false, false_and, or_true, true_or, or_false, false_or, and_self, or_self, not_true_eq_false, not_false_eq_true, implies_true, forall_const, true_implies, false_implies, ri_k, rn_k, rr_k, wr_bi, bi_e0, bi_e1, bi_T, bi_F, Classical.not_not, itp, itn, ck_t])
  refine ⟨_, ?_, key.2.1, key.2.2⟩
  rw [← key.1, b_56_0]
end GP
