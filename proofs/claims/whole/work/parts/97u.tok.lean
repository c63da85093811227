/-! The words of a text: where each begins and ends; the reference's next. -/
section TK
variable {e : List Int32 × Value} {d : Nat} {m : zMm} {B : Int → Int} {L : Int} {P : Int → Prop}
noncomputable def adv (P : Int → Prop) (B : Int → Int) (L : Int) : Nat → Int → Int
  | 0, p => p
  | n + 1, p => cif (p < L ∧ P (B p)) (adv P B L n (p + 1)) p
noncomputable def gon (P : Int → Prop) (B : Int → Int) (L p : Int) : Int := adv P B L (L - p).toNat p
abbrev isL (x : Int) : Prop := 97 ≤ x ∧ x ≤ 122
abbrev isD (x : Int) : Prop := 48 ≤ x ∧ x ≤ 57
abbrev isB (x : Int) : Prop := x = 32
theorem gon_y {p : Int} (h : p < L) (h2 : P (B p)) : gon P B L p = gon P B L (p + 1) := by
  unfold gon
  rw [show (L - p).toNat = (L - (p + 1)).toNat + 1 by omega, adv, cif_t ⟨h, h2⟩]
theorem gon_n {p : Int} (h : ¬ (p < L ∧ P (B p))) : gon P B L p = p := by
  unfold gon
  cases (L - p).toNat with
  | zero => rfl
  | succ n => rw [adv, cif_f h]
theorem gon_b : ∀ (n : Nat) (p : Int), p + n = L → p ≤ gon P B L p ∧ gon P B L p ≤ L ∧ ¬ (gon P B L p < L ∧ P (B (gon P B L p))) := by
  intro n
  induction n with
  | zero =>
    intro p hp
    rw [gon_n (by omega)]
    omega
  | succ n ih =>
    intro p hp
    by_cases q : p < L ∧ P (B p)
    · rw [gon_y q.1 q.2]
      have := ih (p + 1) (by omega)
      exact ⟨by omega, this.2.1, this.2.2⟩
    · rw [gon_n q]
      exact ⟨Int.le_refl _, by omega, q⟩
theorem gon_le {p : Int} (h : p ≤ L) : p ≤ gon P B L p ∧ gon P B L p ≤ L ∧ ¬ (gon P B L p < L ∧ P (B (gon P B L p))) := gon_b (L - p).toNat p (by omega)
theorem gon_cg {Q : Int → Prop} {T : Int → Int} : ∀ (n : Nat) (p : Int), p + n = L → (∀ i, p ≤ i → i < L → (Q (T i) ↔ P (B i))) → gon Q T L p = gon P B L p := by
  intro n
  induction n with
  | zero =>
    intro p hp _
    rw [gon_n (by omega), gon_n (by omega)]
  | succ n ih =>
    intro p hp h
    by_cases q : P (B p)
    · rw [gon_y (by omega) q, gon_y (by omega) ((h p (Int.le_refl _) (by omega)).mpr q)]
      exact ih (p + 1) (by omega) (fun i a b => h i (by omega) b)
    · rw [gon_n (fun z => q z.2), gon_n (fun z => q ((h p (Int.le_refl _) (by omega)).mp z.2))]
/-- its kind, its end -/
noncomputable def tokK (B : Int → Int) (L s : Int) : Int := cif (s = L) 0 (cif (isL (B s)) 1 (cif (isD (B s)) 2 3))
noncomputable def tokE (B : Int → Int) (L s : Int) : Int := cif (s = L) s (cif (isL (B s)) (gon isL B L (s + 1)) (cif (isD (B s)) (gon isD B L (s + 1)) (s + 1)))
theorem tokE_b {s : Int} (h : s ≤ L) : s ≤ tokE B L s ∧ tokE B L s ≤ L ∧ (s < L → s < tokE B L s) := by
  unfold tokE
  by_cases z : s = L
  · rw [cif_t z]; omega
  · rw [cif_f z]
    by_cases y : isL (B s)
    · rw [cif_t y]; have := gon_le (P := isL) (B := B) (L := L) (p := s + 1) (by omega); omega
    · rw [cif_f y]
      by_cases x : isD (B s)
      · rw [cif_t x]; have := gon_le (P := isD) (B := B) (L := L) (p := s + 1) (by omega); omega
      · rw [cif_f x]; omega
/-- all but the place in the text -/
def FX (m m' : zMm) : Prop := (∀ k, ¬ k = 246 → m' k = m k) ∧ (∀ i, ¬ (15 ≤ i ∧ i ≤ 17) → m' 246 i = m 246 i) ∧ Rng m'
theorem FX.um {m' : zMm} {i x : Int} (h : FX m m') (hi : 15 ≤ i ∧ i ≤ 17) (hx : wr x = x) : FX m (um m' 246 i x) := ⟨fun k hk => by rw [um_r hk]; exact h.1 k hk, fun j hj => by rw [um_i (by omega)]; exact h.2.1 j hj, h.2.2.um hx⟩
theorem M_tok (hr : Rng m) (hL : m 246 4 = L) (hB : m 249 = B) (l1 : L ≤ 300) (t0 : 0 ≤ m 246 16) (t1 : m 246 16 ≤ L) : ∃ m', Z e (d + 2) 229 0 [.ref 246] [] m = rn m' ∧ FX m m' ∧ m' 246 15 = gon isB B L (m 246 16) ∧ m' 246 16 = tokE B L (gon isB B L (m 246 16)) ∧ m' 246 17 = tokK B L (gon isB B L (m 246 16)) := by
  have skip : ∀ (n : Nat) (p : Int) (m1 : zMm), p + n = L → 0 ≤ p → FX m m1 → m1 246 15 = p → ∃ m2, Z e (d + 2) 229 8 [.ref 246] [] m1 = Z e (d + 2) 229 46 [.ref 246] [] m2 ∧ FX m m2 ∧ m2 246 15 = gon isB B L p := by
    intro n
    induction n with
    | zero =>
      intro p m1 hp p0 F h15
      refine ⟨m1, ?_, F, by rw [h15, gon_n (by omega)]⟩
      rw [b_229_8, F.2.2 _ _, F.2.2 _ _, h15, F.2.1 4 (by decide), hL, ck_t (by omega), itn (by omega)]
    | succ n ih =>
      intro p m1 hp p0 F h15
      have start : Z e (d + 2) 229 8 [.ref 246] [] m1 = _ := b_229_8
      rw [F.2.2 _ _, F.2.2 _ _, h15, F.2.1 4 (by decide), hL, ck_t (by omega), F.1 249 (by decide), hB] at start
      have wB : wr (B p) = B p := by rw [← hB]; exact hr 249 p
      rw [wB] at start
      by_cases q : B p = 32
      · rw [itp ⟨by omega, q⟩] at start
        obtain ⟨m2, a1, a2, a3⟩ := ih (p + 1) (um m1 246 15 (p + 1)) (by omega) (by omega) (F.um (by decide) (wr_of (by omega) (by omega))) um_s
        exact ⟨m2, start.trans a1, a2, by rw [a3, gon_y (P := isB) (by omega) q]⟩
      · rw [itn (fun z => q z.2)] at start
        exact ⟨m1, start, F, by rw [h15, gon_n (fun z => q z.2)]⟩
  obtain ⟨m2, a1, a2, a3⟩ := skip (L - m 246 16).toNat (m 246 16) (um m 246 15 (m 246 16)) (by omega) t0 (FX.um ⟨fun _ _ => rfl, fun _ _ => rfl, hr⟩ (by decide) (hr 246 16)) um_s
  have gb := gon_le (P := isB) (B := B) t1
  rw [b_229_0, a1]
  generalize gon isB B L (m 246 16) = s at *
  have s0 : 0 ≤ s := by omega
  have s1 : s ≤ L := gb.2.1
  have F3 : FX m (um m2 246 16 s) := a2.um (by decide) (wr_of (by omega) (by omega))
  have x15 : um m2 246 16 s 246 15 = s := by rw [um_i (by decide)]; exact a3
  have x4 : um m2 246 16 s 246 4 = L := by rw [um_i (by decide), a2.2.1 4 (by decide)]; exact hL
  have x249 : um m2 246 16 s 249 = B := by rw [um_r (by decide), a2.1 249 (by decide)]; exact hB
  have x16 : um m2 246 16 s 246 16 = s := um_s
  have go : Z e (d + 2) 229 46 [.ref 246] [] m2 = _ := b_229_46
  rw [a3, x15, x4, x249, wr_of (x := s) (by omega) (by omega), wr_of (x := L) (by omega) (by omega), show wr 97 = 97 from rfl, show wr 122 = 122 from rfl, show wr 48 = 48 from rfl, show wr 57 = 57 from rfl, show wr (B s) = B s by rw [← hB]; exact hr 249 s] at go
  generalize um m2 246 16 s = m3 at *
  by_cases z : s = L
  · rw [itp z] at go
    refine ⟨_, go, F3.um (by decide) rfl, ?_, ?_, ?_⟩
    · rw [um_i (by decide)]; exact x15
    · rw [um_i (by decide), x16]; unfold tokE; rw [cif_t z]
    · rw [um_s]; unfold tokK; rw [cif_t z]
  · have lt : s < L := by omega
    have hk : (if s < L ∧ 97 ≤ B s ∧ B s ≤ 122 then (1 : Int) else if s < L ∧ 48 ≤ B s ∧ B s ≤ 57 then 2 else 3) = tokK B L s := by
      unfold tokK
      rw [cif_f z]
      by_cases y : isL (B s)
      · rw [cif_t y, itp ⟨lt, y⟩]
      · rw [cif_f y, itn (fun q => y q.2)]
        by_cases x : isD (B s)
        · rw [cif_t x, itp ⟨lt, x⟩]
        · rw [cif_f x, itn (fun q => x q.2)]
    rw [itn z, ck_t (by omega), ck_t (fun _ _ => by omega), hk, um_i (by decide), x16] at go
    have kb : tokK B L s = 1 ∨ tokK B L s = 2 ∨ tokK B L s = 3 := by
      unfold tokK
      rw [cif_f z]
      by_cases y : isL (B s)
      · rw [cif_t y]; exact Or.inl rfl
      · rw [cif_f y]
        by_cases x : isD (B s)
        · rw [cif_t x]; exact Or.inr (Or.inl rfl)
        · rw [cif_f x]; exact Or.inr (Or.inr rfl)
    have F4 : FX m (um (um m3 246 17 (tokK B L s)) 246 16 (s + 1)) := (F3.um (by decide) (wr_of (by omega) (by omega))).um (by decide) (wr_of (by omega) (by omega))
    have run : ∀ (n : Nat) (p : Int) (m1 : zMm), p + n = L → 0 ≤ p → FX m m1 → m1 246 15 = s → m1 246 17 = tokK B L s → m1 246 16 = p → ∃ m', Z e (d + 2) 229 124 [.ref 246] [] m1 = rn m' ∧ FX m m' ∧ m' 246 15 = s ∧ m' 246 16 = cif (tokK B L s = 1) (gon isL B L p) (cif (tokK B L s = 2) (gon isD B L p) p) ∧ m' 246 17 = tokK B L s := by
      intro n
      generalize tokK B L s = K at *
      have eq1 : ∀ (p : Int) (m1 : zMm), 0 ≤ p → p ≤ L → FX m m1 → m1 246 17 = K → m1 246 16 = p → Z e (d + 2) 229 124 [.ref 246] [] m1 = if (K = 1 ∧ p < L ∧ isL (B p)) ∨ (K = 2 ∧ p < L ∧ isD (B p)) then Z e (d + 2) 229 124 [.ref 246] [] (um m1 246 16 (p + 1)) else rn m1 := by
        intro p m1 p0 p1 F h17 h16
        have wB : wr (B p) = B p := by rw [← hB]; exact hr 249 p
        have st : Z e (d + 2) 229 124 [.ref 246] [] m1 = _ := b_229_124
        rw [F.2.2 246 17, F.2.2 246 16, F.2.2 246 4, h17, h16, F.2.1 4 (by decide), hL, F.1 249 (by decide), hB, wB, show wr 97 = 97 from rfl, show wr 122 = 122 from rfl, ck_t (fun _ _ => by omega)] at st
        have st2 : Z e (d + 2) 229 147 [.ref 246] [] m1 = _ := b_229_147
        rw [F.2.2 246 17, F.2.2 246 16, F.2.2 246 4, h17, h16, F.2.1 4 (by decide), hL, F.1 249 (by decide), hB, wB, show wr 48 = 48 from rfl, show wr 57 = 57 from rfl, ck_t (fun _ _ => by omega)] at st2
        rw [st]
        by_cases c1 : K = 1 ∧ p < L ∧ isL (B p)
        · rw [itn (fun q => q.elim (fun y => y c1.1) (fun y => y c1.2)), itp (Or.inl c1)]
        · have n1 : ¬ K = 1 ∨ ¬ (p < L ∧ 97 ≤ B p ∧ B p ≤ 122) := by
            by_cases y : K = 1
            · exact Or.inr (fun q => c1 ⟨y, q⟩)
            · exact Or.inl y
          rw [itp n1, st2]
          by_cases c2 : K = 2 ∧ p < L ∧ isD (B p)
          · rw [itp (Or.inr c2)]
            exact itp c2
          · exact (itn c2).trans (itn (fun q => q.elim c1 c2)).symm
      induction n with
      | zero =>
        intro p m1 hp p0 F h15 h17 h16
        refine ⟨m1, ?_, F, h15, ?_, h17⟩
        · rw [eq1 p m1 p0 (by omega) F h17 h16, itn (fun q => q.elim (fun y => by omega) (fun y => by omega))]
        · rw [h16, gon_n (by omega), gon_n (by omega)]
          by_cases y : K = 1
          · rw [cif_t y]
          · rw [cif_f y]
            by_cases x : K = 2
            · rw [cif_t x]
            · rw [cif_f x]
      | succ n ih =>
        intro p m1 hp p0 F h15 h17 h16
        have go1 := eq1 p m1 p0 (by omega) F h17 h16
        by_cases q : (K = 1 ∧ p < L ∧ isL (B p)) ∨ (K = 2 ∧ p < L ∧ isD (B p))
        · rw [itp q] at go1
          obtain ⟨m', b1, b2, b3, b4, b5⟩ := ih (p + 1) (um m1 246 16 (p + 1)) (by omega) (by omega) (F.um (by decide) (wr_of (by omega) (by omega))) (by rw [um_i (by decide)]; exact h15) (by rw [um_i (by decide)]; exact h17) um_s
          refine ⟨m', go1.trans b1, b2, b3, ?_, b5⟩
          rw [b4]
          rcases q with q | q
          · rw [cif_t q.1, cif_t q.1, gon_y (P := isL) q.2.1 q.2.2]
          · have k1 : ¬ K = 1 := by omega
            rw [cif_f k1, cif_f k1, cif_t q.1, cif_t q.1, gon_y (P := isD) q.2.1 q.2.2]
        · rw [itn q] at go1
          refine ⟨m1, go1, F, h15, ?_, h17⟩
          rw [h16]
          by_cases y : K = 1
          · rw [cif_t y, gon_n (fun w => q (Or.inl ⟨y, w⟩))]
          · rw [cif_f y]
            by_cases x : K = 2
            · rw [cif_t x, gon_n (fun w => q (Or.inr ⟨x, w⟩))]
            · rw [cif_f x]
    obtain ⟨m', r1, r2, r3, r4, r5⟩ := run (L - (s + 1)).toNat (s + 1) _ (by omega) (by omega) F4 (by rw [um_i (by decide), um_i (by decide)]; exact x15) (by rw [um_i (by decide), um_s]) um_s
    refine ⟨m', go.trans r1, r2, r3, ?_, r5⟩
    rw [r4]
    unfold tokE
    rw [cif_f z]
    unfold tokK
    rw [cif_f z]
    by_cases y : isL (B s)
    · rw [cif_t y, cif_t y, cif_t rfl]
    · rw [cif_f y, cif_f y]
      by_cases x : isD (B s)
      · rw [cif_t x, cif_t x, cif_f (by decide), cif_t rfl]
      · rw [cif_f x, cif_f x, cif_f (by decide), cif_f (by decide)]
end TK
