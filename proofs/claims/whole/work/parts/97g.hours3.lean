/-! Hours: the reference's runner. -/
section HM
variable {e : List Int32 × Value} {d : Nat} {m : zMm} {N N' : Int → Int}
theorem fst1_least {P : Int → Prop} {n : Int} (h : ∃ i, 0 ≤ i ∧ i < n ∧ P i) : 0 ≤ fst1 P n ∧ fst1 P n < n ∧ P (fst1 P n) ∧ ∀ i', 0 ≤ i' → i' < fst1 P n → ¬ P i' := by
  have : ∀ (k : Nat), (k : Int) ≤ n → (∃ i, 0 ≤ i ∧ i < (k : Int) ∧ P i) → ∃ i, 0 ≤ i ∧ i < (k : Int) ∧ P i ∧ ∀ i', 0 ≤ i' → i' < i → ¬ P i' := by
    intro k
    induction k with
    | zero => rintro _ ⟨i, h0, h1, _⟩; omega
    | succ k ih =>
      rintro hk ⟨i, h0, h1, h2⟩
      by_cases hx : ∃ i, 0 ≤ i ∧ i < (k : Int) ∧ P i
      · obtain ⟨i, a, b, c, dd⟩ := ih (by omega) hx
        exact ⟨i, a, by omega, c, dd⟩
      · exact ⟨i, h0, h1, h2, fun i' a b c => hx ⟨i', a, by omega, c⟩⟩
  obtain ⟨i0, a0, b0, c0⟩ := h
  obtain ⟨i, a, b, c, dd⟩ := this n.toNat (by omega) ⟨i0, a0, by omega, c0⟩
  have e1 := fst1_some a (by omega : i < n) c dd
  rw [e1]
  exact ⟨a, by omega, c, dd⟩
theorem seeS_cg {c h : Int} (b6 : N 6 ≤ 8) (h6 : N' 6 = N 6) (hN : ∀ i, 1050 ≤ i → i < 1082 → N' i = N i) : seeS N' c h = seeS N c h := by
  unfold seeS
  rw [h6]
  refine itr_cg _ _ _ (fun p y h1 h2 => ?_)
  unfold seeP
  rw [hN (1050 + 4 * p) (by omega) (by omega), hN (1050 + 4 * p + 1) (by omega) (by omega), hN (1050 + 4 * p + 2) (by omega) (by omega), hN (1050 + 4 * p + 3) (by omega) (by omega)]
theorem nxtS_cg {a c : Int} (a0 : 0 ≤ a) (a1 : a < 100) (hN : ∀ i, 10 ≤ i → i < 110 → N' i = N i) : nxtS N' a c = nxtS N a c := by
  unfold nxtS
  rw [wayS_cg a0 a1 (fun c h0 h1 => by unfold wall; rw [hN _ (by omega) (by omega)])]
def rowM (m : zMm) (p : Int) (r : Int → Int) : Prop := ∀ j, 0 ≤ j → j < 9 → m 247 (110 + 9 * p + j) = r j
def rowG (m m' : zMm) (p : Int) : Prop := (∀ k, ¬ k = 247 → ¬ k = 252 → ¬ k = 253 → m' k = m k) ∧ (∀ i, ¬ (110 + 9 * p ≤ i ∧ i < 119 + 9 * p) → m' 247 i = m 247 i)
theorem rowM.um {p j x : Int} {r : Int → Int} (h : rowM m p r) (j0 : 0 ≤ j) (j1 : j < 9) : rowM (um m 247 (110 + 9 * p + j) x) p (up r j x) := by
  intro i i0 i1
  by_cases z : i = j
  · rw [z, um_s, up_s]
  · rw [um_i (by omega), up_n z]; exact h i i0 i1
theorem rowG.um {m0 : zMm} {p j x : Int} (h : rowG m0 m p) (j0 : 0 ≤ j) (j1 : j < 9) : rowG m0 (um m 247 (110 + 9 * p + j) x) p :=
  ⟨fun k h1 h2 h3 => by rw [um_r h1]; exact h.1 k h1 h2 h3, fun i hi => by rw [um_i (by omega)]; exact h.2 i hi⟩
def mEnv (N : Int → Int) (n h : Int) (m : zMm) : Prop := m 247 0 = h ∧ m 247 1 = n ∧ (∀ i, (10 ≤ i ∧ i < 110) ∨ i = 6 ∨ (1050 ≤ i ∧ i < 1082) → m 247 i = N i)
theorem mEnv.row {m' : zMm} {n h p : Int} (hE : mEnv N n h m) (p0 : 0 ≤ p) (p1 : p < 16) (hF : rowG m m' p) : mEnv N n h m' :=
  ⟨by rw [hF.2 0 (by omega)]; exact hE.1, by rw [hF.2 1 (by omega)]; exact hE.2.1, fun i hi => by rw [hF.2 i (by omega)]; exact hE.2.2 i hi⟩
theorem M_low {x : Int} {x1 x2 : Int} {u3 u4 : Value} (h0 : 0 ≤ x) (h1 : x < 256) (hx : ¬ x = 0) : Z e (d + 1) 280 169 [.ref 246, .int (iI x1), .int (iI x2), u3, u4, .int (iI x), .int (iI 0)] [] m = Z e (d + 1) 280 185 [.ref 246, .int (iI x1), .int (iI x2), u3, u4, .int (iI x), .int (iI (lowS x))] [] m := by
  obtain ⟨s, s0, s1⟩ := tb_ex h0 hx
  have s2 := tb_lt (n := 8) (x := x) (h := s) (by omega) s0 s1
  have L := fst1_least (P := fun i => tb x i) (n := 8) ⟨s, s0, by omega, s1⟩
  have L2 : 0 ≤ lowS x ∧ lowS x < 8 ∧ tb x (lowS x) ∧ ∀ i', 0 ≤ i' → i' < lowS x → ¬ tb x i' := L
  generalize lowS x = y at *
  have loop : ∀ (j : Nat) (i : Int), i + j = y → 0 ≤ i → Z e (d + 1) 280 169 [.ref 246, .int (iI x1), .int (iI x2), u3, u4, .int (iI x), .int (iI i)] [] m = Z e (d + 1) 280 185 [.ref 246, .int (iI x1), .int (iI x2), u3, u4, .int (iI x), .int (iI y)] [] m := by
    intro j
    induction j with
    | zero =>
      intro i hi i0
      have : i = y := by omega
      subst this
      refine (b_280_169).trans ?_
      rw [jbit h0 (by omega) i0 (by omega), bi_t L2.2.2.1, itn (by decide)]
    | succ j ih =>
      intro i hi i0
      rw [← ih (i + 1) (by omega) (by omega)]
      refine (b_280_169).trans ?_
      rw [jbit h0 (by omega) i0 (by omega), bi_f (L2.2.2.2 i i0 (by omega)), itp rfl]
  exact loop y.toNat 0 (by omega) (by decide)
theorem M_runs {n h p : Int} {r : Int → Int} (hr : Rng m) (b6 : 0 ≤ N 6 ∧ N 6 ≤ 8) (hP : ∀ p, 0 ≤ p → p < N 6 → 0 ≤ N (1050 + 4 * p) ∧ N (1050 + 4 * p) < 100) (hE : mEnv N n h m) (h0 : 0 ≤ h) (h9 : h ≤ 9999) (p0 : 0 ≤ p) (p1 : p < 16) (hR : rowM m p r) (ho : rOk r) (h4 : ¬ r 4 = -3) : ∃ m', Z e (d + 4) 280 0 [.ref 246, .int (iI p), .retAddr 0, .retAddr 0, .retAddr 0, .retAddr 0, .retAddr 0] [] m = rn m' ∧ rowM m' p (goS N (h % 24) (r 1).toNat r 0).1 ∧ rowG m m' p ∧ Rng m' := by
  have ab := ho.2.2.resolve_left h4
  have y0 : wr (110 + 9 * p + 0) = 110 + 9 * p + 0 := wr_of (by omega) (by omega)
  have y1 : wr (110 + 9 * p + 1) = 110 + 9 * p + 1 := wr_of (by omega) (by omega)
  have y4 : wr (110 + 9 * p + 4) = 110 + 9 * p + 4 := wr_of (by omega) (by omega)
  have y5 : wr (110 + 9 * p + 5) = 110 + 9 * p + 5 := wr_of (by omega) (by omega)
  have y6 : wr (110 + 9 * p + 6) = 110 + 9 * p + 6 := wr_of (by omega) (by omega)
  have z0 : 0 ≤ 110 + 9 * p + 0 ∧ 110 + 9 * p + 0 < 2737 := by omega
  have z1 : 0 ≤ 110 + 9 * p + 1 ∧ 110 + 9 * p + 1 < 2737 := by omega
  have z4 : 0 ≤ 110 + 9 * p + 4 ∧ 110 + 9 * p + 4 < 2737 := by omega
  have z5 : 0 ≤ 110 + 9 * p + 5 ∧ 110 + 9 * p + 5 < 2737 := by omega
  have z6 : 0 ≤ 110 + 9 * p + 6 ∧ 110 + 9 * p + 6 < 2737 := by omega
  obtain ⟨mw, f1, f2, f3, f4, f5⟩ := findWays_ok (e := e) (d := d) (m := m) (a := r 4) hr ab.1 ab.2
  have w1 : wr (r 1) = r 1 := by have := ho.2.1; exact wr_of (by omega) (by omega)
  have loop : ∀ (k : Nat) (s o : Int) (r' : Int → Int) (m1 : zMm) (u3 u4 u5 u6 : Value), s + k = r 1 → 0 ≤ s → Rng m1 → rowM m1 p r' → rowG m m1 p → m1 252 = mw 252 → rOk r' → r' 1 = r 1 → (r' 4 = -3 ∨ r' 4 = r 4) → ∃ m', Z e (d + 4) 280 16 [.ref 246, .int (iI p), .int (iI s), u3, u4, u5, u6] [] m1 = rn m' ∧ rowM m' p (goS N (h % 24) k r' o).1 ∧ rowG m m' p ∧ Rng m' := by
    intro k
    induction k with
    | zero =>
      intro s o r' m1 u3 u4 u5 u6 hs s0 r1 hR1 hG1 hw1 hk1 he1 ha1
      refine ⟨m1, ?_, hR1, hG1, r1⟩
      refine (b_280_16).trans ?_
      have := ho.2.1
      rw [y1, hR1 1 (by decide) (by decide), he1, w1, wr_of (x := s) (by omega) (by omega), ck_t z1, ck_t (fun y => by rw [y4]; exact z4), itn (fun y => by omega)]
    | succ k ih =>
      intro s o r' m1 u3 u4 u5 u6 hs s0 r1 hR1 hG1 hw1 hk1 he1 ha1
      have b1 := ho.2.1
      have hE1 := hE.row p0 p1 hG1
      have w4 : wr (r' 4) = r' 4 := by rw [← hR1 4 (by decide) (by decide)]; exact r1 _ _
      have start : Z e (d + 4) 280 16 [.ref 246, .int (iI p), .int (iI s), u3, u4, u5, u6] [] m1 = _ := b_280_16
      rw [y1, hR1 1 (by decide) (by decide), he1, w1, wr_of (x := s) (by omega) (by omega), ck_t z1, y4, hR1 4 (by decide) (by decide), w4, ck_t (fun _ => z4)] at start
      rw [goS]
      by_cases q4 : r' 4 = -3
      · rw [itn (fun y => y.2 q4)] at start
        rw [cif_t (Or.inl q4)]
        exact ⟨m1, start, hR1, hG1, r1⟩
      · have q4r : r' 4 = r 4 := ha1.resolve_left q4
        rw [itp ⟨by omega, q4⟩, y0, ck_t z0, hR1 0 (by decide) (by decide)] at start
        have wl : ∀ i, 10 ≤ i → i < 110 → m1 247 i = m 247 i := fun i i0 i1 => hG1.2 i (by omega)
        have hW1 : isWay (wall (m1 247)) (r' 4) (wy (m1 252)) := by
          rw [hw1, q4r]
          exact isWay_cg ab.1 ab.2 (fun c g0 g1 => by unfold wall; rw [wl _ (by omega) (by omega)]) (fun _ _ _ => rfl) f2
        obtain ⟨u6', nx⟩ := M_next (e := e) (d := d + 1) (m := m1) (a := r' 4) (c := r' 0) (x1 := p) (x2 := s) (u1 := .int (iI 0)) (u2 := .int (iI 0)) (u6 := u6) r1 hk1.1.1 hk1.1.2 hW1 (by rw [hw1]; exact f3)
        rw [nxtS_cg (N := N) (N' := m1 247) (by rw [q4r]; exact ab.1) (by rw [q4r]; exact ab.2) (fun i i0 i1 => hE1.2.2 i (Or.inl ⟨i0, i1⟩))] at nx
        have nb3 : nxtS N (r' 4) (r' 0) = -3 ∨ (0 ≤ nxtS N (r' 4) (r' 0) ∧ nxtS N (r' 4) (r' 0) < 100) := nxtW_b hk1.1.1 hk1.1.2
        generalize nxtS N (r' 4) (r' 0) = x at *
        by_cases zx : x = -3
        · rw [if_pos zx] at nx
          rw [cif_t (Or.inr zx)]
          refine ⟨m1, ?_, hR1, hG1, r1⟩
          rw [start, nx, b_280_126, itp (by decide)]
        · have xb := nb3.resolve_left zx
          rw [if_neg zx] at nx
          rw [cif_f (fun y => y.elim q4 zx)]
          have wx : wr x = x := wr_of (by omega) (by omega)
          have hR2 := hR1.um (x := x) (show (0 : Int) ≤ 0 by decide) (show (0 : Int) < 9 by decide)
          have hG2 := rowG.um (x := x) hG1 (show (0 : Int) ≤ 0 by decide) (show (0 : Int) < 9 by decide)
          have r2 := r1.um (k := 247) (i := 110 + 9 * p + 0) (x := x) wx
          have hE2 := hE.row p0 p1 hG2
          have jr : jrem h 24 = h % 24 := jrem_n h0 (by omega) (by decide) (by decide)
          have e6 := hE2.2.2 6 (Or.inr (Or.inl rfl))
          have se := M_seenBy (e := e) (d := d + 1) (m := um m1 247 (110 + 9 * p + 0) x) (c := x) (h := h % 24) r2 (by rw [e6]; exact b6) (by rw [e6]; intro p' g0 g1; rw [hE2.2.2 _ (Or.inr (Or.inr (by omega)))]; exact hP p' g0 g1) xb.1 xb.2 (by omega) (by omega)
          rw [seeS_cg (N := N) b6.2 e6 (fun i g0 g1 => hE2.2.2 i (Or.inr (Or.inr ⟨g0, g1⟩)))] at se
          have sb := seeS_256 (N := N) (c := x) (h := h % 24) b6
          have ws : wr (seeS N x (h % 24)) = seeS N x (h % 24) := wr_of (by omega) (by omega)
          have n0 := hE2.1
          have go1 : Z e (d + 4) 280 16 [.ref 246, .int (iI p), .int (iI s), u3, u4, u5, u6] [] m1 = Z e (d + 4) 280 159 [.ref 246, .int (iI p), .int (iI s), .int (iI (r' 0)), .int (iI x), .int (iI (-1)), u6'] [.int (iI (seeS N x (h % 24)))] (um m1 247 (110 + 9 * p + 0) x) := by
            rw [start, nx, b_280_126, wx, itn (by omega), y0, ck_t z0, n0, jr, se, ri_k]
          have ao := arrS_ok (N := N) (t := h % 24) xb.1 xb.2 hk1
          have ao4 : arrS N (h % 24) x r' 4 = -3 ∨ arrS N (h % 24) x r' 4 = r 4 := by
            rcases ao.2.2 with y | y
            · exact Or.inl y
            · exact Or.inr (by rw [y]; exact q4r)
          have hw2 : ∀ (i1 i2 y1 y2 : Int), um (um (um m1 247 (110 + 9 * p + 0) x) 247 i1 y1) 247 i2 y2 252 = mw 252 := fun i1 i2 y1 y2 => by rw [um_r (by decide), um_r (by decide), um_r (by decide)]; exact hw1
          by_cases zs : seeS N x (h % 24) = 0
          · by_cases za : x = r' 4
            · have ea : arrS N (h % 24) x r' = up (up (up r' 0 x) 6 1) 4 (-3) := by unfold arrS; rw [cif_f (fun y => y zs), cif_t za]
              obtain ⟨m', q1, q2⟩ := ih (s + 1) 1 (arrS N (h % 24) x r') (um (um (um m1 247 (110 + 9 * p + 0) x) 247 (110 + 9 * p + 6) 1) 247 (110 + 9 * p + 4) (-3)) (.int (iI (r' 0))) (.int (iI x)) (.int (iI (seeS N x (h % 24)))) u6' (by omega) (by omega) ((r2.um rfl).um rfl) (by rw [ea]; exact (hR2.um (by decide) (by decide)).um (by decide) (by decide)) (rowG.um (rowG.um hG2 (by decide) (by decide)) (by decide) (by decide)) (hw2 _ _ _ _) ao.1 (by rw [ao.2.1]; exact he1) ao4
              refine ⟨m', ?_, q2⟩
              have e4 : um m1 247 (110 + 9 * p + 0) x 247 (110 + 9 * p + 4) = r' 4 := by rw [um_i (by omega)]; exact hR1 4 (by decide) (by decide)
              rw [go1, b_280_159, ws, itn (fun y => y zs), y4, ck_t z4, e4, w4, wx, itp za, y6, ck_t z6, ck_t z4]
              exact q1
            · have ea : arrS N (h % 24) x r' = up r' 0 x := by unfold arrS; rw [cif_f (fun y => y zs), cif_f za]
              obtain ⟨m', q1, q2⟩ := ih (s + 1) 1 (arrS N (h % 24) x r') (um m1 247 (110 + 9 * p + 0) x) (.int (iI (r' 0))) (.int (iI x)) (.int (iI (seeS N x (h % 24)))) u6' (by omega) (by omega) r2 (by rw [ea]; exact hR2) hG2 (by rw [um_r (by decide)]; exact hw1) ao.1 (by rw [ao.2.1]; exact he1) ao4
              refine ⟨m', ?_, q2⟩
              have e4 : um m1 247 (110 + 9 * p + 0) x 247 (110 + 9 * p + 4) = r' 4 := by rw [um_i (by omega)]; exact hR1 4 (by decide) (by decide)
              rw [go1, b_280_159, ws, itn (fun y => y zs), y4, ck_t z4, e4, w4, wx, itn za]
              exact q1
          · have lb := low_b sb.1 sb.2 zs
            have ea : arrS N (h % 24) x r' = up (up (up r' 0 x) 5 (lowS (seeS N x (h % 24)))) 4 (-3) := by unfold arrS; rw [cif_t zs]
            obtain ⟨m', q1, q2⟩ := ih (s + 1) 1 (arrS N (h % 24) x r') (um (um (um m1 247 (110 + 9 * p + 0) x) 247 (110 + 9 * p + 5) (lowS (seeS N x (h % 24)))) 247 (110 + 9 * p + 4) (-3)) (.int (iI (r' 0))) (.int (iI x)) (.int (iI (seeS N x (h % 24)))) (.int (iI (lowS (seeS N x (h % 24))))) (by omega) (by omega) ((r2.um (wr_of (by omega) (by omega))).um rfl) (by rw [ea]; exact (hR2.um (by decide) (by decide)).um (by decide) (by decide)) (rowG.um (rowG.um hG2 (by decide) (by decide)) (by decide) (by decide)) (hw2 _ _ _ _) ao.1 (by rw [ao.2.1]; exact he1) ao4
            refine ⟨m', ?_, q2⟩
            rw [go1, b_280_159, ws, itp zs, M_low sb.1 sb.2 zs, b_280_185, y5, ck_t z5, y4, ck_t z4]
            exact q1
  have hGw : rowG m mw p := ⟨fun k h1 h2 h3 => f5 k h2 h3, fun i _ => by rw [f5 247 (by decide) (by decide)]⟩
  have hRw : rowM mw p r := fun j j0 j1 => by rw [f5 247 (by decide) (by decide)]; exact hR j j0 j1
  have b1 := ho.2.1
  obtain ⟨m', q1, q2⟩ := loop (r 1).toNat 0 0 r mw (.retAddr 0) (.retAddr 0) (.retAddr 0) (.retAddr 0) (by omega) (by decide) f4 hRw hGw rfl ho rfl (Or.inr rfl)
  refine ⟨m', ?_, q2⟩
  rw [b_280_0, y4, ck_t z4, hR 4 (by decide) (by decide), f1, rn_k, b_280_14]
  exact q1
end HM
