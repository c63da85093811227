/-! Hours: one runner's hour. -/
noncomputable def lowS (x : Int) : Int := fst1 (fun i => tb x i) 8
noncomputable def arrS (N : Int → Int) (t c : Int) (r : Int → Int) : Int → Int := cif (¬ seeS N c t = 0) (up (up (up r 0 c) 5 (lowS (seeS N c t))) 4 (-3)) (cif (c = r 4) (up (up (up r 0 c) 6 1) 4 (-3)) (up r 0 c))
/-- up to k steps of a runner -/
noncomputable def goS (N : Int → Int) (t : Int) : Nat → (Int → Int) → Int → (Int → Int) × Int
  | 0, r, o => (r, o)
  | k + 1, r, o => cif (r 4 = -3 ∨ nxtS N (r 4) (r 0) = -3) (r, o) (goS N t k (arrS N t (nxtS N (r 4) (r 0)) r) 1)
section HG
variable {e : List Int32 × Value} {d : Nat} {m : zMm} {N : Int → Int}
theorem P_reachesG {p c : Int} (hr : Rng m) (c14 : m 14 3 = N 6) (b6 : 0 ≤ N 6 ∧ N 6 ≤ 8) (wN : Rng (fun _ => N)) (iO : cPos m N) (h0 : 0 ≤ p) (h1 : p < N 6) (h2 : 0 ≤ c) (h3 : c < 100) : Z e (d + 2) 54 0 [.ref 206, .int (iI (p)), .int (iI (c))] [] m = ri (bi (jfar (N (1050 + 4 * p)) c ≤ N (1050 + 4 * p + 1))) m := by
  have q := iO p h0 h1
  have w1 : wr (N (1050 + 4 * p + 1)) = N (1050 + 4 * p + 1) := wN 0 _
  simp (disch := first | omega | (simp (disch := first | decide | omega) only [um_k, um_e, um_i, uz_k]; omega) | exact cat_i | exact cat_u | exact cat_r | assumption | exact rfl) only [b_54_0, b_54_12, b_54_28, get_14, q.1.1, q.2.1.1, w1, wr_jfar q.1.2.1 q.1.2.2 h2 h3, bi_if, wr_of, ↓reduceIte, ck_T, lt_T, lt_F, le_T, le_F, eq_T, eq_F, and_true, true_and, and_false, false_and, or_true, true_or, or_false, false_or, and_self, or_self, not_true_eq_false, not_false_eq_true, implies_true, forall_const, true_implies, false_implies, ri_k, rn_k, rr_k, wr_bi, bi_T, bi_F, Classical.not_not, itp, itn, ck_t]
theorem P_seersG {c h : Int} (hr : Rng m) (c14 : m 14 3 = N 6) (b6 : 0 ≤ N 6 ∧ N 6 ≤ 8) (wN : Rng (fun _ => N)) (iO : cPos m N) (h0 : 0 ≤ c) (h1 : c < 100) (h2 : 0 ≤ h) (h3 : h < 24) : Z e (d + 3) 55 0 [.ref 206, .int (iI (c)), .int (iI (h)), .retAddr 0, .retAddr 0, .retAddr 0] [] m = ri (seeS N c h) m := by
  have w6 : wr (N 6) = N 6 := wr_of (by omega) (by omega)
  rw [b_55_0]
  have key := lpG (F := fun i y (u : Value) => Z e (d + 3) 55 5 [.ref 206, .int (iI c), .int (iI h), .int (iI y), .int (iI i), u] [] m) (G := fun y => ri y m) (f := fun p b => cif (seeP N c h p) (jor b (jshl 1 p)) b) (I := fun _ _ => True) (n := N 6) (by omega) 0 (.retAddr 0) trivial
    (by
      intro i y u g1 g2 gI
      have q := iO i g1 g2
      have qb := q.2.2.2.2.2 h h2 h3
      refine ⟨⟨.int (iI (if jand (jshr (m 15 (i * 3 + 2)) h) 1 = 1 then 1 else 0)), ?_⟩, trivial⟩
      refine (b_55_5).trans ?_
      by_cases c1 : mann (N (1050 + 4 * i + 2)) (N (1050 + 4 * i + 3)) h
      · rw [bi_t c1] at qb
        by_cases c2 : jfar (N (1050 + 4 * i)) c ≤ N (1050 + 4 * i + 1)
        · simp (disch := first | omega | (simp (disch := first | decide | omega) only [um_k, um_e, um_i, uz_k]; omega) | exact cat_i | exact cat_u | exact cat_r | assumption | exact rfl) only [b_55_33, b_55_60, get_14, c14, w6, qb, P_reachesG hr c14 b6 wN iO g1 g2 h0 h1, bi_t c2, cif_t (show seeP N c h i from ⟨c1, c2⟩), wr_of, ↓reduceIte, ck_T, lt_T, lt_F, le_T, le_F, eq_T, eq_F, and_true, true_and, and_false, false_and, or_true, true_or, or_false, false_or, and_self, or_self, not_true_eq_false, not_false_eq_true, implies_true, forall_const, true_implies, false_implies, ri_k, rn_k, rr_k, wr_bi, bi_e0, bi_e1, bi_T, bi_F, Classical.not_not, itp, itn, ck_t]
        · simp (disch := first | omega | (simp (disch := first | decide | omega) only [um_k, um_e, um_i, uz_k]; omega) | exact cat_i | exact cat_u | exact cat_r | assumption | exact rfl) only [b_55_33, b_55_60, get_14, c14, w6, qb, P_reachesG hr c14 b6 wN iO g1 g2 h0 h1, bi_f c2, cif_f (show ¬ seeP N c h i from fun q => c2 q.2), wr_of, ↓reduceIte, ck_T, lt_T, lt_F, le_T, le_F, eq_T, eq_F, and_true, true_and, and_false, false_and, or_true, true_or, or_false, false_or, and_self, or_self, not_true_eq_false, not_false_eq_true, implies_true, forall_const, true_implies, false_implies, ri_k, rn_k, rr_k, wr_bi, bi_e0, bi_e1, bi_T, bi_F, Classical.not_not, itp, itn, ck_t]
      · rw [bi_f c1] at qb
        simp (disch := first | omega | (simp (disch := first | decide | omega) only [um_k, um_e, um_i, uz_k]; omega) | exact cat_i | exact cat_u | exact cat_r | assumption | exact rfl) only [b_55_33, b_55_60, get_14, c14, w6, qb, cif_f (show ¬ seeP N c h i from fun q => c1 q.1), wr_of, ↓reduceIte, ck_T, lt_T, lt_F, le_T, le_F, eq_T, eq_F, and_true, true_and, and_false, false_and, or_true, true_or, or_false, false_or, and_self, or_self, not_true_eq_false, not_false_eq_true, implies_true, forall_const, true_implies, false_implies, ri_k, rn_k, rr_k, wr_bi, bi_e0, bi_e1, bi_T, bi_F, Classical.not_not, itp, itn, ck_t])
    (by
      intro y u gI
      refine (b_55_5).trans ?_
      simp (disch := first | omega | (simp (disch := first | decide | omega) only [um_k, um_e, um_i, uz_k]; omega) | exact cat_i | exact cat_u | exact cat_r | assumption | exact rfl) only [c14, w6, wr_of, ↓reduceIte, ck_T, lt_T, lt_F, le_T, le_F, eq_T, eq_F, and_true, true_and, and_false, false_and, or_true, true_or, or_false, false_or, and_self, or_self, not_true_eq_false, not_false_eq_true, implies_true, forall_const, true_implies, false_implies, ri_k, rn_k, rr_k, wr_bi, bi_e0, bi_e1, bi_T, bi_F, Classical.not_not, itp, itn, ck_t])
  exact key.1
theorem low_b {x : Int} (h0 : 0 ≤ x) (h1 : x < 256) (hx : ¬ x = 0) : 0 ≤ lowS x ∧ lowS x < 8 ∧ tb x (lowS x) := by
  rcases fst1_cases (P := fun i => tb x i) (n := 8) with z | z
  · obtain ⟨s, s0, s1⟩ := tb_ex h0 hx
    have := tb_lt (n := 8) (x := x) (h := s) (by omega) s0 s1
    exact absurd s1 (z.2 s s0 (by omega))
  · exact z
theorem lowest_ok {x : Int} (h0 : 0 ≤ x) (h1 : x < 256) : Z e d 98 0 [.int (iI x), .retAddr 0] [] m = ri (lowS x) m := by
  rw [b_98_0]
  have key := lpE (F := fun j => Z e d 98 2 [.int (iI x), .int (iI j)] [] m) (P := fun j => tb x j) (n := 8) (A := fun j => ri j m) (B := ri (-3) m) 8 0 (by decide)
    (by
      intro i g1 g2 g3
      refine (b_98_2).trans ?_
      rw [wr_of (x := i) (by omega) (by omega), itp g2, jbit h0 (by omega) g1 (by omega), bi_t g3, itp rfl])
    (by
      intro i g1 g2 g3
      refine (b_98_2).trans ?_
      rw [wr_of (x := i) (by omega) (by omega), itp g2, jbit h0 (by omega) g1 (by omega), bi_f g3, itn (by decide)])
    (by
      refine (b_98_2).trans ?_
      rw [itn (by decide)])
  rcases key with ⟨i, g1, g2, g3, g4, g5⟩ | ⟨g1, g2⟩
  · rw [g5]
    unfold lowS
    rw [fst1_some g1 g2 g3 g4]
  · rw [g2]
    unfold lowS
    rw [fst1_none g1]
/-- a person's row in the class's memory -/
def rowC (m : zMm) (p : Int) (r : Int → Int) : Prop := ∀ j, 0 ≤ j → j < 18 → m 5 (p * 18 + j) = r j
/-- only that row differs -/
def rowF (m m' : zMm) (p : Int) : Prop := (∀ k, ¬ k = 5 → m' k = m k) ∧ (∀ i, ¬ (p * 18 ≤ i ∧ i < p * 18 + 18) → m' 5 i = m 5 i)
theorem rowC.um {p j x : Int} {r : Int → Int} (h : rowC m p r) (j0 : 0 ≤ j) (j1 : j < 18) : rowC (um m 5 (p * 18 + j) x) p (up r j x) := by
  intro i i0 i1
  by_cases z : i = j
  · rw [z, um_s, up_s]
  · rw [um_i (by omega), up_n z]; exact h i i0 i1
theorem rowF.um {m0 : zMm} {p j x : Int} (h : rowF m0 m p) (j0 : 0 ≤ j) (j1 : j < 18) : rowF m0 (um m 5 (p * 18 + j) x) p := by
  refine ⟨fun k hk => by rw [um_r hk]; exact h.1 k hk, fun i hi => by rw [um_i (by omega)]; exact h.2 i hi⟩
theorem seeS_256 {c h : Int} (b6 : 0 ≤ N 6 ∧ N 6 ≤ 8) : 0 ≤ seeS N c h ∧ seeS N c h < 256 := ⟨(seeS_b b6).1, (seeS_b b6).2.2⟩
/-- what an hour of the class's rests on -/
def hEnv (N : Int → Int) (n h : Int) (m : zMm) : Prop := m 1 0 = h ∧ m 4 3 = n ∧ m 14 3 = N 6 ∧ cPos m N ∧ beside m
theorem hEnv.row {m' : zMm} {n h p : Int} (hE : hEnv N n h m) (hF : rowF m m' p) : hEnv N n h m' := by
  obtain ⟨h1, h2, h3, h4, h5⟩ := hE
  refine ⟨by rw [hF.1 1 (by decide)]; exact h1, by rw [hF.1 4 (by decide)]; exact h2, by rw [hF.1 14 (by decide)]; exact h3, ?_, ?_⟩
  · intro q q0 q1
    have := h4 q q0 q1
    unfold oRow at this ⊢
    rw [hF.1 15 (by decide)]
    exact this
  · unfold beside at *
    rw [hF.1 192 (by decide)]
    exact h5
theorem arrive_ok {n h p c : Int} {r : Int → Int} (hr : Rng m) (wN : Rng (fun _ => N)) (b6 : 0 ≤ N 6 ∧ N 6 ≤ 8) (hE : hEnv N n h m) (h0 : 0 ≤ h) (h9 : h ≤ 9999) (hn : 0 ≤ n ∧ n ≤ 16) (p0 : 0 ≤ p) (p1 : p < n) (c0 : 0 ≤ c) (c1 : c < 100) (hR : rowC m p r) (hc : r 0 = c) : ∃ m', Z e (d + 4) 97 0 [.ref 208, .int (iI p), .int (iI c), .retAddr 0] [] m = rn m' ∧ rowC m' p (cif (¬ seeS N c (h % 24) = 0) (up (up r 5 (lowS (seeS N c (h % 24)))) 4 (-3)) (cif (c = r 4) (up (up r 6 1) 4 (-3)) r)) ∧ rowF m m' p ∧ Rng m' := by
  obtain ⟨e1, e4, e14, hO, hB⟩ := hE
  have jr : jrem h 24 = h % 24 := jrem_n h0 (by omega) (by decide) (by decide)
  have se := P_seersG (e := e) (d := d) (m := m) (N := N) (c := c) (h := h % 24) hr e14 b6 wN hO c0 c1 (by omega) (by omega)
  have sb := seeS_256 (N := N) (c := c) (h := h % 24) b6
  have ws : wr (seeS N c (h % 24)) = seeS N c (h % 24) := wr_of (by omega) (by omega)
  have S4 : ∀ (D : Nat) (μ : zMm) (j x : Int), μ 4 3 = n → 0 ≤ j → j < 18 → Z e D 105 0 [.ref 4, .int (iI p), .int (iI j), .int (iI x)] [] μ = rn (um μ 5 (p * 18 + j) x) := fun D μ j x g0 g1 g2 => set_4 (by omega) (by omega) p0 (by omega) g1 g2
  have start : Z e (d + 4) 97 0 [.ref 208, .int (iI p), .int (iI c), .retAddr 0] [] m = Z e (d + 4) 97 18 [.ref 208, .int (iI p), .int (iI c), .retAddr 0] [.int (iI (seeS N c (h % 24)))] m := by
    rw [b_97_0, e1, jr, se, ri_k]
  by_cases z : seeS N c (h % 24) = 0
  · have t4 := get_4 (e := e) (d := d + 3) (m := m) (i := p) (j := 4) (by omega) (by omega) p0 (by omega) (by decide) (by decide)
    rw [hR 4 (by decide) (by decide)] at t4
    have w4 : wr (r 4) = r 4 := by rw [← hR 4 (by decide) (by decide)]; exact hr _ _
    rw [cif_f (fun y => y z)]
    by_cases y : c = r 4
    · rw [cif_t y]
      refine ⟨um (um m 5 (p * 18 + 6) 1) 5 (p * 18 + 4) (-3), ?_, (hR.um (by decide) (by decide)).um (by decide) (by decide), rowF.um (rowF.um ⟨fun _ _ => rfl, fun _ _ => rfl⟩ (by decide) (by decide)) (by decide) (by decide), (hr.um rfl).um rfl⟩
      rw [start, b_97_18, ws, itn (fun q => q z), t4, ri_k, b_97_69, wr_of (x := c) (by omega) (by omega), w4, itp y, S4 _ _ _ _ e4 (by decide) (by decide), rn_k, b_97_86, S4 _ _ _ _ (by rw [um_k (by decide)]; exact e4) (by decide) (by decide), rn_k, b_97_100]
    · rw [cif_f y]
      refine ⟨m, ?_, hR, ⟨fun _ _ => rfl, fun _ _ => rfl⟩, hr⟩
      rw [start, b_97_18, ws, itn (fun q => q z), t4, ri_k, b_97_69, wr_of (x := c) (by omega) (by omega), w4, itn y]
  · have lb := low_b sb.1 sb.2 z
    have lo := lowest_ok (e := e) (d := d + 3) (m := m) sb.1 sb.2
    rw [cif_t z]
    refine ⟨um (um m 5 (p * 18 + 5) (lowS (seeS N c (h % 24)))) 5 (p * 18 + 4) (-3), ?_, (hR.um (by decide) (by decide)).um (by decide) (by decide), rowF.um (rowF.um ⟨fun _ _ => rfl, fun _ _ => rfl⟩ (by decide) (by decide)) (by decide) (by decide), (hr.um (wr_of (by omega) (by omega))).um rfl⟩
    rw [start, b_97_18, ws, itp z, lo, ri_k, b_97_36, S4 _ _ _ _ e4 (by decide) (by decide), rn_k, b_97_39, S4 _ _ _ _ (by rw [um_k (by decide)]; exact e4) (by decide) (by decide), rn_k, b_97_53, b_97_100]
/-- what is asked of a row -/
def rOk (r : Int → Int) : Prop := (0 ≤ r 0 ∧ r 0 < 100) ∧ (1 ≤ r 1 ∧ r 1 ≤ 4) ∧ (r 4 = -3 ∨ (0 ≤ r 4 ∧ r 4 < 100))
theorem arrS_ok {t c : Int} {r : Int → Int} (c0 : 0 ≤ c) (c1 : c < 100) (h : rOk r) : rOk (arrS N t c r) ∧ arrS N t c r 1 = r 1 ∧ (arrS N t c r 4 = -3 ∨ arrS N t c r 4 = r 4) := by
  unfold arrS rOk at *
  by_cases z : seeS N c t = 0
  · rw [cif_f (fun y => y z)]
    by_cases y : c = r 4
    · rw [cif_t y]
      simp only [up, Int.reduceEq, if_true, if_false]
      exact ⟨⟨⟨c0, c1⟩, h.2.1, Or.inl trivial⟩, trivial, Or.inl trivial⟩
    · rw [cif_f y]
      simp only [up, Int.reduceEq, if_true, if_false]
      exact ⟨⟨⟨c0, c1⟩, h.2.1, h.2.2⟩, trivial, Or.inr trivial⟩
  · rw [cif_t z]
    simp only [up, Int.reduceEq, if_true, if_false]
    exact ⟨⟨⟨c0, c1⟩, h.2.1, Or.inl trivial⟩, trivial, Or.inl trivial⟩
theorem C_go {n h p a : Int} {r : Int → Int} (hr : Rng m) (wN : Rng (fun _ => N)) (b6 : 0 ≤ N 6 ∧ N 6 ≤ 8) (hE : hEnv N n h m) (h0 : 0 ≤ h) (h9 : h ≤ 9999) (hn : 0 ≤ n ∧ n ≤ 16) (p0 : 0 ≤ p) (p1 : p < n) (hR : rowC m p r) (ho : rOk r) (hW : ¬ r 4 = -3 → isWay (wall N) (r 4) (m (210 + p.toNat))) : ∃ m', Z e (d + 5) 95 0 [.ref 208, .int (iI p), .retAddr 0, .retAddr 0, .retAddr 0, .retAddr 0] [] m = ri (goS N (h % 24) (r 1).toNat r 0).2 m' ∧ rowC m' p (goS N (h % 24) (r 1).toNat r 0).1 ∧ rowF m m' p ∧ Rng m' := by
  have loop : ∀ (k : Nat) (s o : Int) (r' : Int → Int) (m1 : zMm) (u5 : Value), s + k = r 1 → 0 ≤ s → (o = 0 ∨ o = 1) → Rng m1 → rowC m1 p r' → rowF m m1 p → rOk r' → r' 1 = r 1 → (r' 4 = -3 ∨ r' 4 = r 4) → ∃ m', Z e (d + 5) 95 18 [.ref 208, .int (iI p), .int (iI o), .int (iI (r 1)), .int (iI s), u5] [] m1 = ri (goS N (h % 24) k r' o).2 m' ∧ rowC m' p (goS N (h % 24) k r' o).1 ∧ rowF m m' p ∧ Rng m' := by
    intro k
    have w1 : wr (r 1) = r 1 := by have := ho.2.1; exact wr_of (by omega) (by omega)
    induction k with
    | zero =>
      intro s o r' m1 u5 hs s0 ho1 r1 hR1 hF1 hk1 he1 ha1
      refine ⟨m1, ?_, hR1, hF1, r1⟩
      refine (b_95_18).trans ?_
      have nb : nbp o := by rcases ho1 with z | z <;> rw [z] <;> rfl
      have := ho.2.1
      rw [wr_of (x := s) (by omega) (by omega), w1, itn (by omega), ck_t nb]
      rfl
    | succ k ih =>
      intro s o r' m1 u5 hs s0 ho1 r1 hR1 hF1 hk1 he1 ha1
      have b1 := ho.2.1
      have hE1 := hE.row hF1
      have nb : nbp o := by rcases ho1 with z | z <;> rw [z] <;> rfl
      have e4 := hE1.2.1
      have t4 := get_4 (e := e) (d := d + 4) (m := m1) (i := p) (j := 4) (by omega) (by omega) p0 (by omega) (by decide) (by decide)
      rw [hR1 4 (by decide) (by decide)] at t4
      have w4 : wr (r' 4) = r' 4 := by rw [← hR1 4 (by decide) (by decide)]; exact r1 _ _
      have start : Z e (d + 5) 95 18 [.ref 208, .int (iI p), .int (iI o), .int (iI (r 1)), .int (iI s), u5] [] m1 = _ := b_95_18
      rw [wr_of (x := s) (by omega) (by omega), w1, itp (by omega), t4, ri_k, b_95_36, w4] at start
      rw [goS]
      by_cases z4 : r' 4 = -3
      · rw [itn (fun y => y z4), ck_t nb] at start
        rw [cif_t (Or.inl z4)]
        exact ⟨m1, start, hR1, hF1, r1⟩
      · have z4r : r' 4 = r 4 := ha1.resolve_left z4
        have hW1 : isWay (wall N) (r' 4) (m1 (210 + p.toNat)) := by
          rw [z4r, hF1.1 (210 + p.toNat) (by omega)]
          exact hW (by rw [← z4r]; exact z4)
        have nx := C_next (e := e) (d := d + 3) (m := m1) (N := N) (p := p) (a := r' 4) (c := r' 0) r1 p0 (by omega) (by omega) (hR1 0 (by decide) (by decide)) hk1.1.1 hk1.1.2 hE1.2.2.2.2 hW1
        have nb2 := nxtW_b (w := wayS N (r' 4)) hk1.1.1 hk1.1.2
        have nb3 : nxtS N (r' 4) (r' 0) = -3 ∨ (0 ≤ nxtS N (r' 4) (r' 0) ∧ nxtS N (r' 4) (r' 0) < 100) := nb2
        rw [itp z4, nx, ri_k, b_95_46] at start
        generalize nxtS N (r' 4) (r' 0) = x at *
        rw [wr_of (x := x) (by omega) (by omega)] at start
        by_cases zx : x = -3
        · rw [itp zx, ck_t nb] at start
          rw [cif_t (Or.inr zx)]
          exact ⟨m1, start, hR1, hF1, r1⟩
        · have xb := nb3.resolve_left zx
          rw [itn zx, set_4 (e := e) (d := d + 4) (m := m1) (i := p) (j := 0) (x := x) (by omega) (by omega) p0 (by omega) (by decide) (by decide), rn_k, b_95_73] at start
          have hF2 := rowF.um (x := x) hF1 (show (0 : Int) ≤ 0 by decide) (show (0 : Int) < 18 by decide)
          have hE2 := hE.row hF2
          have hR2 := hR1.um (x := x) (show (0 : Int) ≤ 0 by decide) (show (0 : Int) < 18 by decide)
          obtain ⟨m2, a1, a2, a3, a4⟩ := arrive_ok (e := e) (d := d) (m := um m1 5 (p * 18 + 0) x) (N := N) (c := x) (r := up r' 0 x) (r1.um (wr_of (by omega) (by omega))) wN b6 hE2 h0 h9 hn p0 p1 xb.1 xb.2 hR2 up_s
          have ea : (cif (¬ seeS N x (h % 24) = 0) (up (up (up r' 0 x) 5 (lowS (seeS N x (h % 24)))) 4 (-3)) (cif (x = up r' 0 x 4) (up (up (up r' 0 x) 6 1) 4 (-3)) (up r' 0 x))) = arrS N (h % 24) x r' := by
            unfold arrS
            rw [up_n (show ¬ (4 : Int) = 0 by decide)]
          rw [ea] at a2
          have ao := arrS_ok (N := N) (t := h % 24) xb.1 xb.2 hk1
          rw [a1, rn_k, b_95_80] at start
          rw [cif_f (fun y => y.elim z4 zx)]
          have hF3 : rowF m m2 p := ⟨fun k hk => by rw [a3.1 k hk]; exact hF2.1 k hk, fun i hi => by rw [a3.2 i hi]; exact hF2.2 i hi⟩
          obtain ⟨m', q1, q2⟩ := ih (s + 1) 1 (arrS N (h % 24) x r') m2 (.int (iI x)) (by omega) (by omega) (Or.inr rfl) a4 a2 hF3 ao.1 (by rw [ao.2.1]; exact he1) (by
            rcases ao.2.2 with y | y
            · exact Or.inl y
            · exact Or.inr (by rw [y]; exact z4r))
          exact ⟨m', start.trans q1, q2⟩
  have b1 := ho.2.1
  have t1 := get_4 (e := e) (d := d + 4) (m := m) (i := p) (j := 1) (by rw [hE.2.1]; omega) (by rw [hE.2.1]; omega) p0 (by rw [hE.2.1]; omega) (by decide) (by decide)
  rw [hR 1 (by decide) (by decide)] at t1
  rw [b_95_0, t1, ri_k, b_95_14]
  exact loop (r 1).toNat 0 0 r m _ (by omega) (by decide) (Or.inl rfl) hr hR ⟨fun _ _ => rfl, fun _ _ => rfl⟩ ho rfl (Or.inr rfl)
end HG
