/-! The reference's facts of a deed. -/
section MF
variable {e : List Int32 × Value} {d : Nat} {m m0 : zMm} {N : Int → Int}
theorem M_times {q : Int} (hr : Rng m) (b4 : 0 ≤ m 247 4 ∧ m 247 4 ≤ 24) (q0 : 0 ≤ q) (q1 : q < m 247 4) : Z e (d + 1) 248 0 [.ref 246, .int (iI q), .retAddr 0, .retAddr 0, .retAddr 0] [] m = ri (timS (m 247) q) m := by
  have z0 : wr (794 + 6 * q + 0) = 794 + 6 * q + 0 := wr_of (by omega) (by omega)
  have z1 : wr (794 + 6 * q + 1) = 794 + 6 * q + 1 := wr_of (by omega) (by omega)
  have z3 : wr (794 + 6 * q + 3) = 794 + 6 * q + 3 := wr_of (by omega) (by omega)
  have key := lpG (F := fun i y (u : Value) => Z e (d + 1) 248 4 [.ref 246, .int (iI q), .int (iI y), .int (iI i), u] [] m) (G := fun y => ri y m) (f := fun z n => n + bi ((m 247 (794 + 6 * z + 0) = m 247 (794 + 6 * q + 0) ∧ m 247 (794 + 6 * z + 1) = m 247 (794 + 6 * q + 1)) ∧ m 247 (794 + 6 * z + 3) ≤ m 247 (794 + 6 * q + 3))) (I := fun _ _ => True) (n := m 247 4) b4.1 0 (.retAddr 0) trivial
    (by
      intro i y u g1 g2 gI
      have y0 : wr (794 + 6 * i + 0) = 794 + 6 * i + 0 := wr_of (by omega) (by omega)
      have y1 : wr (794 + 6 * i + 1) = 794 + 6 * i + 1 := wr_of (by omega) (by omega)
      have y3 : wr (794 + 6 * i + 3) = 794 + 6 * i + 3 := wr_of (by omega) (by omega)
      by_cases a : m 247 (794 + 6 * i + 0) = m 247 (794 + 6 * q + 0) ∧ m 247 (794 + 6 * i + 1) = m 247 (794 + 6 * q + 1)
      · refine ⟨⟨.int (iI 1), ?_⟩, trivial⟩
        refine (b_248_4).trans ?_
        by_cases b : m 247 (794 + 6 * i + 3) ≤ m 247 (794 + 6 * q + 3)
        · rw [bi_t ⟨a, b⟩]
          obtain ⟨a0, a1⟩ := a
          simp (disch := first | omega | (simp (disch := first | decide | omega) only [um_k, um_e, um_i, uz_k]; omega) | exact cat_i | exact cat_u | exact cat_r | assumption | exact rfl) only [y0, y1, y3, z0, z1, z3, hr _ _, a0, a1, b, wr_of, ↓reduceIte, ck_T, lt_T, lt_F, le_T, le_F, eq_T, eq_F, and_true, true_and, and_false, false_and, or_true, true_or, or_false, false_or, and_self, or_self, not_true_eq_false, not_false_eq_true, implies_true, forall_const, true_implies, false_implies, ri_k, rn_k, rr_k, wr_bi, bi_e0, bi_e1, bi_T, bi_F, Classical.not_not, itp, itn, ck_t]
        · rw [bi_f (fun z => b z.2)]
          obtain ⟨a0, a1⟩ := a
          simp (disch := first | omega | (simp (disch := first | decide | omega) only [um_k, um_e, um_i, uz_k]; omega) | exact cat_i | exact cat_u | exact cat_r | assumption | exact rfl) only [y0, y1, y3, z0, z1, z3, hr _ _, a0, a1, b, wr_of, ↓reduceIte, ck_T, lt_T, lt_F, le_T, le_F, eq_T, eq_F, and_true, true_and, and_false, false_and, or_true, true_or, or_false, false_or, and_self, or_self, not_true_eq_false, not_false_eq_true, implies_true, forall_const, true_implies, false_implies, ri_k, rn_k, rr_k, wr_bi, bi_e0, bi_e1, bi_T, bi_F, Classical.not_not, itp, itn, ck_t]
      · refine ⟨⟨.int (iI 0), ?_⟩, trivial⟩
        refine (b_248_4).trans ?_
        rw [bi_f (fun z => a z.1)]
        by_cases a0 : m 247 (794 + 6 * i + 0) = m 247 (794 + 6 * q + 0)
        · have a1 : ¬ m 247 (794 + 6 * i + 1) = m 247 (794 + 6 * q + 1) := fun z => a ⟨a0, z⟩
          simp (disch := first | omega | (simp (disch := first | decide | omega) only [um_k, um_e, um_i, uz_k]; omega) | exact cat_i | exact cat_u | exact cat_r | assumption | exact rfl) only [y0, y1, y3, z0, z1, z3, hr _ _, a0, a1, wr_of, ↓reduceIte, ck_T, lt_T, lt_F, le_T, le_F, eq_T, eq_F, and_true, true_and, and_false, false_and, or_true, true_or, or_false, false_or, and_self, or_self, not_true_eq_false, not_false_eq_true, implies_true, forall_const, true_implies, false_implies, ri_k, rn_k, rr_k, wr_bi, bi_e0, bi_e1, bi_T, bi_F, Classical.not_not, itp, itn, ck_t]
        · simp (disch := first | omega | (simp (disch := first | decide | omega) only [um_k, um_e, um_i, uz_k]; omega) | exact cat_i | exact cat_u | exact cat_r | assumption | exact rfl) only [y0, y1, y3, z0, z1, z3, hr _ _, a0, wr_of, ↓reduceIte, ck_T, lt_T, lt_F, le_T, le_F, eq_T, eq_F, and_true, true_and, and_false, false_and, or_true, true_or, or_false, false_or, and_self, or_self, not_true_eq_false, not_false_eq_true, implies_true, forall_const, true_implies, false_implies, ri_k, rn_k, rr_k, wr_bi, bi_e0, bi_e1, bi_T, bi_F, Classical.not_not, itp, itn, ck_t])
    (by
      intro y u gI
      refine (b_248_4).trans ?_
      simp (disch := first | omega | (simp (disch := first | decide | omega) only [um_k, um_e, um_i, uz_k]; omega) | exact cat_i | exact cat_u | exact cat_r | assumption | exact rfl) only [hr _ _, wr_of, ↓reduceIte, ck_T, lt_T, lt_F, le_T, le_F, eq_T, eq_F, and_true, true_and, and_false, false_and, or_true, true_or, or_false, false_or, and_self, or_self, not_true_eq_false, not_false_eq_true, implies_true, forall_const, true_implies, false_implies, ri_k, rn_k, rr_k, wr_bi, bi_e0, bi_e1, bi_T, bi_F, Classical.not_not, itp, itn, ck_t])
  rw [b_248_0]
  exact key.1
theorem RM.um258 {i x : Int} (R : RM m0 m) (hx : wr x = x) : RM m0 (um m 258 i x) := by
  obtain ⟨r1, r2, r3, r4⟩ := R
  refine ⟨r1.um hx, fun k hk => by unfold rfk at hk; rw [um_r (by omega)]; exact r2 k (by unfold rfk; omega), fun i hi => by rw [um_k (by decide)]; exact r3 i hi, ?_⟩
  rw [um_k (by decide)]
  unfold RefC at *
  rw [um_r (by decide)]
  exact r4
theorem RM.um259 {i x : Int} (R : RM m0 m) (hx : wr x = x) : RM m0 (um m 259 i x) := by
  obtain ⟨r1, r2, r3, r4⟩ := R
  refine ⟨r1.um hx, fun k hk => by unfold rfk at hk; rw [um_r (by omega)]; exact r2 k (by unfold rfk; omega), fun i hi => by rw [um_k (by decide)]; exact r3 i hi, ?_⟩
  rw [um_k (by decide)]
  unfold RefC at *
  rw [um_r (by decide)]
  exact r4
theorem RM.um246 {i x : Int} (hi : ¬ i = 12) (R : RM m0 m) (hx : wr x = x) : RM (um m0 246 i x) (um m 246 i x) := by
  obtain ⟨r1, r2, r3, r4⟩ := R
  refine ⟨r1.um hx, fun k hk => by unfold rfk at hk; rw [um_r (by omega), um_r (by omega)]; exact r2 k (by unfold rfk; omega), fun j hj => ?_, ?_⟩
  · by_cases z : j = i
    · rw [z, um_s, um_s]
    · rw [um_i z, um_i z]; exact r3 j hj
  · rw [um_i (by omega), um_r (by decide)]
    unfold RefC at *
    rw [um_r (by decide)]
    exact r4
theorem Core_246 {i x : Int} {F : zMm} (hC : Core F (m0 247)) : Core F (um m0 246 i x 247) := by
  rw [um_r (by decide)]
  exact hC
theorem RM.back {i x y : Int} (hi : ¬ i = 12) (hy : m0 246 i = y) (hw : wr y = y) (R : RM (um m0 246 i x) m) : RM m0 (um m 246 i y) := by
  obtain ⟨r1, r2, r3, r4⟩ := R
  refine ⟨r1.um hw, fun k hk => ?_, fun j hj => ?_, ?_⟩
  · have hk2 := hk
    unfold rfk at hk2
    rw [um_r (by omega), r2 k hk, um_r (by omega)]
  · by_cases z : j = i
    · rw [z, um_s, hy]
    · rw [um_i z, r3 j hj, um_i z]
  · rw [um_i (by omega)]
    rw [um_r (show ¬ 247 = 246 by decide)] at r4
    unfold RefC at *
    rw [um_r (by decide)]
    exact r4
theorem insd_iff (hS : sB N) {o q : Int} : 0 < deg N (mile N o (N (794 + 6 * q + 3))) (strt N o (N (794 + 6 * q + 3))) (N (794 + 6 * q + 4)) ↔ insd N o q := by
  have h1 := deg_b hS (mi := mile N o (N (794 + 6 * q + 3))) (st := strt N o (N (794 + 6 * q + 3))) (c := N (794 + 6 * q + 4))
  have h2 := most_cases hS (mi := mile N o (N (794 + 6 * q + 3))) (st := strt N o (N (794 + 6 * q + 3))) (c := N (794 + 6 * q + 4))
  unfold insd
  rw [h1.2.2]
  constructor
  · intro z
    have : ¬ most N (mile N o (N (794 + 6 * q + 3))) (strt N o (N (794 + 6 * q + 3))) (N (794 + 6 * q + 4)) = 0 := fun y => z (h2.2.mp y)
    omega
  · intro z y
    have := h2.2.mpr y
    omega
theorem wasInside_ok {q : Int} {F : zMm} (hC : Core F (m0 247)) (hr0 : Rng m0) (R : RM m0 m) (q0 : 0 ≤ q) (q1 : q < m0 247 4) : ∃ m', Z e (d + 7) 249 0 [.ref 246, .int (iI q), .retAddr 0, .retAddr 0] [] m = ri (bi (insd (m0 247) (m0 246 13) q)) m' ∧ RM m0 m' ∧ m' 258 = m 258 := by
  have hC0 := hC
  obtain ⟨iN, iG, iP, iH, iS, iD, iT, iO, iU, iR, iV⟩ := hC
  have bN := iN
  unfold cNum at bN
  have hS := sB_of iN iS
  have dq := iD q q0 q1
  unfold dRow at dq
  obtain ⟨df, d0, d1, d2, d3, d4, d5⟩ := dq
  have f247 := R.n
  have u247 : um m0 246 14 (-1) 247 = m0 247 := um_r (by decide)
  have u13 : um m0 246 14 (-1) 246 13 = m0 246 13 := um_i (by decide)
  obtain ⟨m1, a1, a2, a3⟩ := M_degree (e := e) (d := d) (m0 := um m0 246 14 (-1)) (m := um m 246 14 (-1)) (c := m0 247 (794 + 6 * q + 4)) (h := m0 247 (794 + 6 * q + 3)) (mi := mile (m0 247) (m0 246 13) (m0 247 (794 + 6 * q + 3))) (Core_246 hC0) (hr0.um rfl) (RM.um246 (by decide) R rfl) (hr0 _ _) d4.1 d4.2 (Or.inl ⟨Or.inl (by rw [um_s]; decide), by rw [u247, u13]⟩)
  rw [u247, u13] at a1
  have y3 : wr (794 + 6 * q + 3) = 794 + 6 * q + 3 := wr_of (by omega) (by omega)
  have y4 : wr (794 + 6 * q + 4) = 794 + 6 * q + 4 := wr_of (by omega) (by omega)
  have k4 : um m 246 14 (-1) 247 = m0 247 := by rw [um_r (by decide)]; exact f247
  refine ⟨um m1 246 14 (m 246 14), ?_, RM.back (by decide) (R.2.2.1 14 (by decide)).symm (R.1 _ _) a2, by rw [um_r (by decide), a3, um_r (by decide)]⟩
  have db := deg_b hS (mi := mile (m0 247) (m0 246 13) (m0 247 (794 + 6 * q + 3))) (st := strt (m0 247) (m0 246 13) (m0 247 (794 + 6 * q + 3))) (c := m0 247 (794 + 6 * q + 4))
  have wd : wr (deg (m0 247) (mile (m0 247) (m0 246 13) (m0 247 (794 + 6 * q + 3))) (strt (m0 247) (m0 246 13) (m0 247 (794 + 6 * q + 3))) (m0 247 (794 + 6 * q + 4))) = deg (m0 247) (mile (m0 247) (m0 246 13) (m0 247 (794 + 6 * q + 3))) (strt (m0 247) (m0 246 13) (m0 247 (794 + 6 * q + 3))) (m0 247 (794 + 6 * q + 4)) := wr_of (by omega) (by omega)
  rw [b_249_0, y3, y4, ck_t (by omega), ck_t (by omega), k4, a1, ri_k, b_249_34, wd, bi_if, bi_cg (insd_iff hS)]
theorem fct_b (hS : sB N) (b4 : N 4 ≤ 24) {o q g h : Int} (hg : 0 ≤ g ∧ g ≤ 12) (hh : 0 ≤ h ∧ h ≤ 9999) (hq : 0 ≤ N (794 + 6 * q + 3) ∧ N (794 + 6 * q + 3) ≤ 9999) : ∀ i, -10000 ≤ fct N o q g h i ∧ fct N o q g h i ≤ 10000 := by
  intro i
  have ht := timS_b (N := N) (q := q)
  have hb : ∀ P : Prop, 0 ≤ bi P ∧ bi P ≤ 1 := fun P => by rcases bi_01 (P := P) with z | z <;> omega
  unfold fct mrk
  have h1 := hb (insd N o q)
  have h2 := hb (ngt (N (794 + 6 * q + 3)))
  have h3 := hb (0 ≤ N (794 + 6 * q + 2))
  split
  · omega
  · split
    · omega
    · split
      · omega
      · split
        · split
          · omega
          · split <;> omega
        · omega
theorem findFacts_ok {q c h mi : Int} {F : zMm} (hC : Core F (m0 247)) (hr0 : Rng m0) (R : RM m0 m) (h0 : 0 ≤ h) (h1 : h ≤ 9999) (c0 : 0 ≤ c) (c1 : c < 100) (q0 : 0 ≤ q) (q1 : q < m0 247 4) (hm : mil m0 h mi) : ∃ m', Z e (d + 8) 250 0 [.ref 246, .int (iI q), .int (iI c), .int (iI h)] [] m = rn m' ∧ RM m0 m' ∧ (∀ i, 0 ≤ i → i < 6 → m' 258 i = fct (m0 247) (m0 246 13) q (deg (m0 247) mi (strt (m0 247) (m0 246 13) h) c) h i) := by
  have hC0 := hC
  obtain ⟨iN, iG, iP, iH, iS, iD, iT, iO, iU, iR, iV⟩ := hC
  have bN := iN
  unfold cNum at bN
  have hS := sB_of iN iS
  have hh : wr h = h := wr_of (by omega) (by omega)
  have dq := iD q q0 q1
  unfold dRow at dq
  obtain ⟨df, d0, d1, d2, d3, d4, d5⟩ := dq
  have f247 := R.n
  have y2 : wr (794 + 6 * q + 2) = 794 + 6 * q + 2 := wr_of (by omega) (by omega)
  have y3 : wr (794 + 6 * q + 3) = 794 + 6 * q + 3 := wr_of (by omega) (by omega)
  generalize hg : deg (m0 247) mi (strt (m0 247) (m0 246 13) h) c = g
  have gb := deg_b hS (mi := mi) (st := strt (m0 247) (m0 246 13) h) (c := c)
  rw [hg] at gb
  have tb0 := timS_b (N := m0 247) (q := q)
  have w0 : wr (h - m0 247 (794 + 6 * q + 3)) = h - m0 247 (794 + 6 * q + 3) := wr_of (by omega) (by omega)
  have w1 : wr (timS (m0 247) q) = timS (m0 247) q := wr_of (by omega) (by omega)
  have R1 := RM.um258 (i := 0) R w0
  have tm := M_times (e := e) (d := d + 6) (m := um m 258 0 (h - m0 247 (794 + 6 * q + 3))) (q := q) R1.1 (by rw [R1.n]; omega) q0 (by rw [R1.n]; exact q1)
  rw [R1.n] at tm
  have R2 := RM.um258 (i := 1) R1 w1
  obtain ⟨m3, a1, a2, a3⟩ := M_degree (e := e) (d := d + 1) (m := um (um m 258 0 (h - m0 247 (794 + 6 * q + 3))) 258 1 (timS (m0 247) q)) hC0 hr0 R2 hh c0 c1 hm
  rw [hg] at a1
  have R3 := RM.um258 (i := 2) (x := g) a2 (wr_of (by omega) (by omega))
  obtain ⟨m4, b1, b2, b3⟩ := wasInside_ok (e := e) (d := d) (m := um m3 258 2 g) hC0 hr0 R3 q0 q1
  have hb : ∀ P : Prop, wr (bi P) = bi P := fun P => wr_bi
  have eb : (if ¬ bi (insd (m0 247) (m0 246 13) q) = 0 then (1 : Int) else 0) = bi (insd (m0 247) (m0 246 13) q) := by
    rcases bi_01 (P := insd (m0 247) (m0 246 13) q) with z | z <;> rw [z] <;> rfl
  have R4 := RM.um258 (i := 3) (x := bi (insd (m0 247) (m0 246 13) q)) b2 wr_bi
  have R5 := RM.um258 (i := 4) (x := bi (ngt (m0 247 (794 + 6 * q + 3)))) R4 wr_bi
  have R6 := RM.um258 (i := 5) (x := bi (0 ≤ m0 247 (794 + 6 * q + 2))) R5 wr_bi
  refine ⟨_, ?_, R6, ?_⟩
  · have jr : jrem (m0 247 (794 + 6 * q + 3)) 24 = m0 247 (794 + 6 * q + 3) % 24 := jrem_n (by omega) (by omega) (by decide) (by decide)
    have wj : wr (m0 247 (794 + 6 * q + 3) % 24) = m0 247 (794 + 6 * q + 3) % 24 := wr_of (by omega) (by omega)
    have wi0 : wr 3 = 3 := rfl
    have wi1 : wr 1 = 1 := rfl
    have wi2 : wr 2 = 2 := rfl
    have n4 : um m4 258 3 (bi (insd (m0 247) (m0 246 13) q)) 247 = m0 247 := R4.n
    have n5 : um (um m4 258 3 (bi (insd (m0 247) (m0 246 13) q))) 258 4 (bi (ngt (m0 247 (794 + 6 * q + 3)))) 247 = m0 247 := R5.n
    have en : (if (20 ≤ m0 247 (794 + 6 * q + 3) % 24) ∨ (m0 247 (794 + 6 * q + 3) % 24 < 6) then (1 : Int) else 0) = bi (ngt (m0 247 (794 + 6 * q + 3))) := bi_if
    have ea : (if 0 ≤ m0 247 (794 + 6 * q + 2) then (1 : Int) else 0) = bi (0 ≤ m0 247 (794 + 6 * q + 2)) := bi_if
    rw [b_250_0, y3, ck_t (by omega), f247, tm, ri_k, b_250_28, wi1, ck_t (by decide), a1, ri_k, b_250_40, wi2, ck_t (by decide), b1, ri_k, b_250_51, wi0, ck_t (by decide), y3, ck_t (by omega), y2, ck_t (by omega), hb, eb, n4, jr, wj, en, n5, hr0, ea]
  · intro i i0 i1
    have hi : i = 0 ∨ i = 1 ∨ i = 2 ∨ i = 3 ∨ i = 4 ∨ i = 5 := by omega
    have k4 : ∀ j, m4 258 j = um m3 258 2 g 258 j := fun j => by rw [b3]
    have k3 : ∀ j, m3 258 j = um (um m 258 0 (h - m0 247 (794 + 6 * q + 3))) 258 1 (timS (m0 247) q) 258 j := fun j => by rw [a3]
    unfold fct mrk
    rcases hi with z | z | z | z | z | z <;> subst z <;> simp (disch := first | omega | (simp (disch := first | decide | omega) only [um_k, um_e, um_i, uz_k]; omega) | exact cat_i | exact cat_u | exact cat_r | assumption | exact rfl) only [um_s, um_i, k4, k3] <;> rfl
end MF
