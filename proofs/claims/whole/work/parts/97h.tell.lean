/-! Hours: bells are told. -/
section TB
variable {e : List Int32 × Value} {d : Nat} {m : zMm}
def tld (H : Int → Int → Int) (C : Int → Int) (h i q b : Int) : Prop := C i = C q ∧ ¬ H i b = -3 ∧ H i b < h
/-- told by those of D -/
def Kd (H : Int → Int → Int) (C : Int → Int) (n nb h : Int) (D : Int → Int → Int → Prop) (rd : Int → Int → Int) : Prop := ∀ q b, 0 ≤ q → q < n → 0 ≤ b → b < nb → rd q b = cif (H q b = -3 ∧ ∃ i, (0 ≤ i ∧ i < n) ∧ D i q b ∧ tld H C h i q b) h (H q b)
variable {H : Int → Int → Int} {C : Int → Int} {n nb h : Int} {D D' : Int → Int → Int → Prop} {rd rd' : Int → Int → Int}
theorem Kd.cg (k : Kd H C n nb h D rd) (hD : ∀ i q b, 0 ≤ i → i < n → 0 ≤ q → q < n → 0 ≤ b → b < nb → tld H C h i q b → (D i q b ↔ D' i q b)) : Kd H C n nb h D' rd := by
  intro q b q0 q1 b0 b1
  rw [k q b q0 q1 b0 b1]
  refine cif_cg (and_congr Iff.rfl ⟨fun ⟨i, z1, z2, z3⟩ => ⟨i, z1, (hD i q b z1.1 z1.2 q0 q1 b0 b1 z3).mp z2, z3⟩, fun ⟨i, z1, z2, z3⟩ => ⟨i, z1, (hD i q b z1.1 z1.2 q0 q1 b0 b1 z3).mpr z2, z3⟩⟩)
theorem Kd.start : Kd H C n nb h (fun _ _ _ => False) H := by
  intro q b _ _ _ _
  rw [cif_f (fun z => by obtain ⟨_, i, _, z2, _⟩ := z; exact z2)]
theorem Kd.tells (k : Kd H C n nb h D rd) {i b : Int} (i0 : 0 ≤ i) (i1 : i < n) (b0 : 0 ≤ b) (b1 : b < nb) : (¬ rd i b = -3 ∧ rd i b < h) ↔ (¬ H i b = -3 ∧ H i b < h) := by
  rw [k i b i0 i1 b0 b1]
  by_cases z : H i b = -3 ∧ ∃ i', (0 ≤ i' ∧ i' < n) ∧ D i' i b ∧ tld H C h i' i b
  · rw [cif_t z]
    exact ⟨fun y => by omega, fun y => absurd z.1 y.1⟩
  · rw [cif_f z]
theorem Kd.step (hh : 0 ≤ h) (k : Kd H C n nb h D rd) {i q b : Int} (i0 : 0 ≤ i) (i1 : i < n) (q0 : 0 ≤ q) (q1 : q < n) (b0 : 0 ≤ b) (b1 : b < nb) (hv : (tld H C h i q b ∧ rd q b = -3 → rd' q b = h) ∧ (¬ (tld H C h i q b ∧ rd q b = -3) → rd' q b = rd q b)) (ho : ∀ q' b', 0 ≤ q' → q' < n → 0 ≤ b' → b' < nb → ¬ (q' = q ∧ b' = b) → rd' q' b' = rd q' b') : Kd H C n nb h (fun i' q' b' => D i' q' b' ∨ (i' = i ∧ q' = q ∧ b' = b)) rd' := by
  intro q' b' g0 g1 g2 g3
  by_cases z : q' = q ∧ b' = b
  · obtain ⟨z1, z2⟩ := z
    subst z1 z2
    have kq := k q' b' g0 g1 g2 g3
    by_cases t : tld H C h i q' b'
    · by_cases e3 : rd q' b' = -3
      · rw [hv.1 ⟨t, e3⟩]
        have hq : H q' b' = -3 := by
          by_cases y : H q' b' = -3 ∧ ∃ i, (0 ≤ i ∧ i < n) ∧ D i q' b' ∧ tld H C h i q' b'
          · exact y.1
          · rw [cif_f y] at kq; omega
        rw [cif_t ⟨hq, i, ⟨i0, i1⟩, Or.inr ⟨rfl, rfl, rfl⟩, t⟩]
      · rw [hv.2 (fun y => e3 y.2), kq]
        by_cases y : H q' b' = -3 ∧ ∃ i, (0 ≤ i ∧ i < n) ∧ D i q' b' ∧ tld H C h i q' b'
        · rw [cif_t y]
          obtain ⟨y1, j, y2, y3, y4⟩ := y
          rw [cif_t ⟨y1, j, y2, Or.inl y3, y4⟩]
        · rw [cif_f y] at kq ⊢
          rw [cif_f (fun w => e3 (by rw [kq]; exact w.1))]
    · rw [hv.2 (fun y => t y.1), kq]
      refine cif_cg (and_congr Iff.rfl ⟨fun ⟨j, y1, y2, y3⟩ => ⟨j, y1, Or.inl y2, y3⟩, fun ⟨j, y1, y2, y3⟩ => ?_⟩)
      rcases y2 with y2 | y2
      · exact ⟨j, y1, y2, y3⟩
      · rw [y2.1] at y3; exact absurd y3 t
  · rw [ho q' b' g0 g1 g2 g3 z, k q' b' g0 g1 g2 g3]
    refine cif_cg (and_congr Iff.rfl ⟨fun ⟨j, y1, y2, y3⟩ => ⟨j, y1, Or.inl y2, y3⟩, fun ⟨j, y1, y2, y3⟩ => ?_⟩)
    rcases y2 with y2 | y2
    · exact ⟨j, y1, y2, y3⟩
    · exact absurd ⟨y2.2.1, y2.2.2⟩ z
def rdC (m : zMm) : Int → Int → Int := fun q b => m 5 (q * 18 + (10 + b))
/-- no more than bells differ -/
def belF (nb : Int) (m m' : zMm) : Prop := (∀ k, ¬ k = 5 → m' k = m k) ∧ (∀ p j, 0 ≤ p → p < 16 → 0 ≤ j → j < 18 → ¬ (10 ≤ j ∧ j < 10 + nb) → m' 5 (p * 18 + j) = m 5 (p * 18 + j))
theorem tellTo_ok {q i : Int} {m0 : zMm} (hr : Rng m) (hn : 0 ≤ n ∧ n ≤ 16) (hb : 0 ≤ nb ∧ nb ≤ 8) (h0 : 0 ≤ h) (h9 : h ≤ 9999) (e1 : m 1 0 = h) (e2 : m 1 1 = nb) (e4 : m 4 3 = n) (q0 : 0 ≤ q) (q1 : q < n) (i0 : 0 ≤ i) (i1 : i < n) (hc : C i = C q) (k : Kd H C n nb h D (rdC m)) (hF : belF nb m0 m) : ∃ m', Z e (d + 1) 100 0 [.ref 208, .int (iI q), .int (iI i), .retAddr 0, .retAddr 0, .retAddr 0] [] m = rn m' ∧ Kd H C n nb h (fun i' q' b' => D i' q' b' ∨ (i' = i ∧ q' = q)) (rdC m') ∧ belF nb m0 m' ∧ Rng m' := by
  have loop : ∀ (j : Nat) (b : Int) (m1 : zMm) (u4 u5 : Value), b + j = nb → 0 ≤ b → Rng m1 → Kd H C n nb h (fun i' q' b' => D i' q' b' ∨ (i' = i ∧ q' = q ∧ b' < b)) (rdC m1) → belF nb m0 m1 → m1 1 = m 1 → m1 4 = m 4 → ∃ m', Z e (d + 1) 100 3 [.ref 208, .int (iI q), .int (iI i), .int (iI (10 + b)), u4, u5] [] m1 = rn m' ∧ Kd H C n nb h (fun i' q' b' => D i' q' b' ∨ (i' = i ∧ q' = q)) (rdC m') ∧ belF nb m0 m' ∧ Rng m' := by
    intro j
    induction j with
    | zero =>
      intro b m1 u4 u5 hj b0 r1 k1 f1 g1 g4
      refine ⟨m1, ?_, k1.cg (fun i' q' b' _ _ _ _ _ hb' _ => ⟨fun z => z.imp id (fun y => ⟨y.1, y.2.1⟩), fun z => z.imp id (fun y => ⟨y.1, y.2, by omega⟩)⟩), f1, r1⟩
      refine (b_100_3).trans ?_
      rw [g1, e2, wr_of (x := 10 + b) (by omega) (by omega), wr_of (x := 10 + nb) (by omega) (by omega), itn (by omega)]
    | succ j ih =>
      intro b m1 u4 u5 hj b0 r1 k1 f1 g1 g4
      have t1 := get_4 (e := e) (d := d) (m := m1) (i := i) (j := 10 + b) (by rw [g4]; omega) (by rw [g4]; omega) i0 (by rw [g4]; omega) (by omega) (by omega)
      have t2 := get_4 (e := e) (d := d) (m := m1) (i := q) (j := 10 + b) (by rw [g4]; omega) (by rw [g4]; omega) q0 (by rw [g4]; omega) (by omega) (by omega)
      have s1 := set_4 (e := e) (d := d) (m := m1) (i := q) (j := 10 + b) (x := h) (by rw [g4]; omega) (by rw [g4]; omega) q0 (by rw [g4]; omega) (by omega) (by omega)
      have tt := k1.tells i0 i1 b0 (by omega)
      have st : Z e (d + 1) 100 3 [.ref 208, .int (iI q), .int (iI i), .int (iI (10 + b)), u4, u5] [] m1 = _ := b_100_3
      rw [g1, e2, wr_of (x := 10 + b) (by omega) (by omega), wr_of (x := 10 + nb) (by omega) (by omega), itp (by omega), t1, ri_k, b_100_29, r1, g1, e1, wr_of (x := h) (by omega) (by omega)] at st
      have en : (10 + b) + 1 = 10 + (b + 1) := by omega
      have fin : ∀ m2 : zMm, Kd H C n nb h (fun i' q' b' => (D i' q' b' ∨ (i' = i ∧ q' = q ∧ b' < b)) ∨ (i' = i ∧ q' = q ∧ b' = b)) (rdC m2) → Kd H C n nb h (fun i' q' b' => D i' q' b' ∨ (i' = i ∧ q' = q ∧ b' < b + 1)) (rdC m2) := fun m2 k2 => k2.cg (fun i' q' b' _ _ _ _ _ _ _ => ⟨fun z => by
          rcases z with (z | z) | z
          · exact Or.inl z
          · exact Or.inr ⟨z.1, z.2.1, by omega⟩
          · exact Or.inr ⟨z.1, z.2.1, by omega⟩, fun z => by
          rcases z with z | z
          · exact Or.inl (Or.inl z)
          · by_cases y : b' = b
            · exact Or.inr ⟨z.1, z.2.1, y⟩
            · exact Or.inl (Or.inr ⟨z.1, z.2.1, by omega⟩)⟩)
      have same : ¬ (tld H C h i q b ∧ rdC m1 q b = -3) → ∀ u4' u5' : Value, Z e (d + 1) 100 3 [.ref 208, .int (iI q), .int (iI i), .int (iI (10 + b)), u4, u5] [] m1 = Z e (d + 1) 100 3 [.ref 208, .int (iI q), .int (iI i), .int (iI (10 + (b + 1))), u4', u5'] [] m1 → ∃ m', Z e (d + 1) 100 3 [.ref 208, .int (iI q), .int (iI i), .int (iI (10 + b)), u4, u5] [] m1 = rn m' ∧ Kd H C n nb h (fun i' q' b' => D i' q' b' ∨ (i' = i ∧ q' = q)) (rdC m') ∧ belF nb m0 m' ∧ Rng m' := fun nt u4' u5' hz => by
        obtain ⟨m', p1, p2⟩ := ih (b + 1) m1 u4' u5' (by omega) (by omega) r1 (fin m1 (k1.step h0 i0 i1 q0 q1 b0 (by omega) ⟨fun z => absurd z nt, fun _ => rfl⟩ (fun _ _ _ _ _ _ _ => rfl))) f1 g1 g4
        exact ⟨m', hz.trans p1, p2⟩
      by_cases c1 : ¬ m1 5 (i * 18 + (10 + b)) = -3 ∧ m1 5 (i * 18 + (10 + b)) < h
      · rw [itp c1, t2, ri_k, b_100_62, r1] at st
        have tl : tld H C h i q b := ⟨hc, (tt.mp c1).1, (tt.mp c1).2⟩
        by_cases c2 : m1 5 (q * 18 + (10 + b)) = -3
        · rw [itp c2, b_100_72 cat_i, itp (by decide), g1, e1, s1, rn_k, b_100_98, en] at st
          have f2 : belF nb m0 (um m1 5 (q * 18 + (10 + b)) h) := ⟨fun k' hk' => by rw [um_r hk']; exact f1.1 k' hk', fun p j p0 p1 j0 j1 hj' => by rw [um_i (by omega)]; exact f1.2 p j p0 p1 j0 j1 hj'⟩
          obtain ⟨m', p1, p2⟩ := ih (b + 1) (um m1 5 (q * 18 + (10 + b)) h) (.int (iI (m1 5 (i * 18 + (10 + b))))) (.int (iI 1)) (by omega) (by omega) (r1.um (wr_of (by omega) (by omega))) (fin _ (k1.step h0 i0 i1 q0 q1 b0 (by omega) ⟨fun _ => um_s, fun z => absurd ⟨tl, c2⟩ z⟩ (fun q' b' y0 y1 y2 y3 y4 => by unfold rdC; rw [um_i (by omega)]))) f2 (by rw [um_r (by decide)]; exact g1) (by rw [um_r (by decide)]; exact g4)
          exact ⟨m', st.trans p1, p2⟩
        · rw [itn c2, b_100_72 cat_i, itn (by decide), b_100_98, en] at st
          exact same (fun z => c2 z.2) _ _ st
      · rw [itn c1, b_100_72 cat_i, itn (by decide), b_100_98, en] at st
        exact same (fun z => c1 (tt.mpr ⟨z.1.2.1, z.1.2.2⟩)) _ _ st
  obtain ⟨m', p1, p2⟩ := loop nb.toNat 0 m (.retAddr 0) (.retAddr 0) (by omega) (by decide) hr (k.cg (fun i' q' b' _ _ _ _ hb0 _ _ => ⟨fun z => Or.inl z, fun z => z.elim id (fun y => by omega)⟩)) hF rfl rfl
  refine ⟨m', ?_, p2⟩
  rw [b_100_0]
  exact p1
theorem tellBells_ok (hr : Rng m) (hn : 0 ≤ n ∧ n ≤ 16) (hb : 0 ≤ nb ∧ nb ≤ 8) (h0 : 0 ≤ h) (h9 : h ≤ 9999) (e1 : m 1 0 = h) (e2 : m 1 1 = nb) (e4 : m 4 3 = n) (hH : H = rdC m) (hC : ∀ p, 0 ≤ p → p < n → m 5 (p * 18 + 0) = C p) (wC : ∀ p, 0 ≤ p → p < n → wr (C p) = C p) : ∃ m', Z e (d + 2) 99 0 [.ref 208, .retAddr 0, .retAddr 0, .retAddr 0] [] m = rn m' ∧ Kd H C n nb h (fun _ _ _ => True) (rdC m') ∧ belF nb m m' ∧ Rng m' := by
  have w4 : wr n = n := wr_of (by omega) (by omega)
  by_cases z : nb = 0
  · refine ⟨m, ?_, fun q b _ _ b0 b1 => by omega, ⟨fun _ _ => rfl, fun _ _ _ _ _ _ _ => rfl⟩, hr⟩
    rw [b_99_0, e2, z, itp (by decide)]
  · have inner : ∀ (i : Int), 0 ≤ i → i < n → ∀ (j : Nat) (q : Int) (m1 : zMm), q + j = n → 0 ≤ q → Rng m1 → Kd H C n nb h (fun i' q' _ => i' < i ∨ (i' = i ∧ q' < q)) (rdC m1) → belF nb m m1 → ∃ m', Z e (d + 2) 99 42 [.ref 208, .int (iI i), .int (iI (C i)), .int (iI q)] [] m1 = Z e (d + 2) 99 13 [.ref 208, .int (iI (i + 1)), .int (iI (C i)), .int (iI n)] [] m' ∧ Kd H C n nb h (fun i' _ _ => i' < i + 1) (rdC m') ∧ belF nb m m' ∧ Rng m' := by
      intro i i0 i1 j
      induction j with
      | zero =>
        intro q m1 hq q0 r1 k1 f1
        have e14 : m1 4 3 = n := by rw [f1.1 4 (by decide)]; exact e4
        have : q = n := by omega
        subst this
        refine ⟨m1, ?_, k1.cg (fun i' q' b' _ _ _ hq' _ _ _ => ⟨fun y => by omega, fun y => by omega⟩), f1, r1⟩
        refine (b_99_42).trans ?_
        rw [e14, w4, itn (by omega)]
      | succ j ih =>
        intro q m1 hq q0 r1 k1 f1
        have e14 : m1 4 3 = n := by rw [f1.1 4 (by decide)]; exact e4
        have t0 := get_4 (e := e) (d := d + 1) (m := m1) (i := q) (j := 0) (by omega) (by omega) q0 (by omega) (by decide) (by decide)
        have cq : m1 5 (q * 18 + 0) = C q := by rw [f1.2 q 0 q0 (by omega) (by decide) (by decide) (by omega)]; exact hC q q0 (by omega)
        rw [cq] at t0
        have st : Z e (d + 2) 99 42 [.ref 208, .int (iI i), .int (iI (C i)), .int (iI q)] [] m1 = _ := b_99_42
        rw [e14, w4, wr_of (x := q) (by omega) (by omega), itp (by omega), t0, ri_k, b_99_68, wC q q0 (by omega), wC i i0 i1] at st
        by_cases cc : C q = C i
        · obtain ⟨m2, a1, a2, a3, a4⟩ := tellTo_ok (e := e) (d := d) (m := m1) (m0 := m) (q := q) (i := i) r1 hn hb h0 h9 (by rw [f1.1 1 (by decide)]; exact e1) (by rw [f1.1 1 (by decide)]; exact e2) e14 q0 (by omega) i0 i1 cc.symm k1 f1
          rw [itp cc, a1, rn_k, b_99_78] at st
          obtain ⟨m', p1, p2⟩ := ih (q + 1) m2 (by omega) (by omega) a4 (a2.cg (fun i' q' b' _ _ _ _ _ _ _ => ⟨fun y => by omega, fun y => by omega⟩)) a3
          exact ⟨m', st.trans p1, p2⟩
        · rw [itn cc, b_99_78] at st
          obtain ⟨m', p1, p2⟩ := ih (q + 1) m1 (by omega) (by omega) r1 (k1.cg (fun i' q' b' _ _ _ _ _ _ tl => ⟨fun y => by omega, fun y => by
            rcases y with y | y
            · exact Or.inl y
            · by_cases w : q' = q
              · have := tl.1
                rw [y.1, w] at this
                exact absurd this.symm cc
              · exact Or.inr ⟨y.1, by omega⟩⟩)) f1
          exact ⟨m', st.trans p1, p2⟩
    have outer : ∀ (j : Nat) (i : Int) (m1 : zMm) (u2 u3 : Value), i + j = n → 0 ≤ i → Rng m1 → Kd H C n nb h (fun i' _ _ => i' < i) (rdC m1) → belF nb m m1 → ∃ m', Z e (d + 2) 99 13 [.ref 208, .int (iI i), u2, u3] [] m1 = rn m' ∧ Kd H C n nb h (fun _ _ _ => True) (rdC m') ∧ belF nb m m' ∧ Rng m' := by
      intro j
      induction j with
      | zero =>
        intro i m1 u2 u3 hi i0 r1 k1 f1
        have e14 : m1 4 3 = n := by rw [f1.1 4 (by decide)]; exact e4
        refine ⟨m1, ?_, k1.cg (fun i' _ _ _ hi' _ _ _ _ _ => ⟨fun _ => trivial, fun _ => by omega⟩), f1, r1⟩
        refine (b_99_13).trans ?_
        rw [e14, w4, wr_of (x := i) (by omega) (by omega), itn (by omega)]
      | succ j ih =>
        intro i m1 u2 u3 hi i0 r1 k1 f1
        have e14 : m1 4 3 = n := by rw [f1.1 4 (by decide)]; exact e4
        have t0 := get_4 (e := e) (d := d + 1) (m := m1) (i := i) (j := 0) (by omega) (by omega) i0 (by omega) (by decide) (by decide)
        have ci : m1 5 (i * 18 + 0) = C i := by rw [f1.2 i 0 i0 (by omega) (by decide) (by decide) (by omega)]; exact hC i i0 (by omega)
        rw [ci] at t0
        obtain ⟨m2, a1, a2, a3, a4⟩ := inner i i0 (by omega) n.toNat 0 m1 (by omega) (by decide) r1 (k1.cg (fun i' q' b' _ _ hq' _ _ _ _ => ⟨fun y => Or.inl y, fun y => by omega⟩)) f1
        obtain ⟨m', p1, p2⟩ := ih (i + 1) m2 _ _ (by omega) (by omega) a4 a2 a3
        refine ⟨m', ?_, p2⟩
        refine (b_99_13).trans ?_
        rw [e14, w4, wr_of (x := i) (by omega) (by omega), itp (by omega), t0, ri_k, b_99_39, a1]
        exact p1
    obtain ⟨m', p1, p2⟩ := outer n.toNat 0 m (.retAddr 0) (.retAddr 0) (by omega) (by decide) hr (by rw [← hH]; exact Kd.start.cg (fun i' _ _ hi' _ _ _ _ _ _ => ⟨fun y => y.elim, fun y => by omega⟩)) ⟨fun _ _ => rfl, fun _ _ _ _ _ _ _ => rfl⟩
    refine ⟨m', ?_, p2⟩
    rw [b_99_0, e2, wr_of (x := nb) (by omega) (by omega), itn z]
    exact p1
end TB
