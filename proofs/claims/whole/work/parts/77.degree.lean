/-! Degrees, times, marks: the class. -/
section DG
variable {e : List Int32 × Value} {d : Nat} {m : zMm} {N : Int → Int}
/-- what is asked of the numbers of stones -/
def sB (N : Int → Int) : Prop := 0 ≤ N 2 ∧ N 2 ≤ 6 ∧ ∀ s, 0 ≤ s → s < N 2 → (0 ≤ N (254 + 2 * s) ∧ N (254 + 2 * s) < 100) ∧ 1 ≤ N (254 + 2 * s + 1) ∧ N (254 + 2 * s + 1) ≤ 9
theorem sB_of {F : zMm} (iN : cNum F N) (iS : cSto F N) : sB N := by
  unfold cNum at iN
  exact ⟨by omega, by omega, fun s h0 h1 => ⟨(iS s h0 h1).1.2, (iS s h0 h1).2.2⟩⟩
theorem vB_of {F : zMm} (iN : cNum F N) (iV : cVer F N) : vB N := by
  unfold cNum at iN
  refine ⟨by omega, by omega, fun v h0 h1 => ?_⟩
  have q := iV.1 v h0 h1
  unfold vRow at q
  exact q.2.2.2.1.2
theorem lB_of {F : zMm} (iV : cVer F N) : ∀ v l, 0 ≤ v → v < N 3 → 0 ≤ l → l < N (266 + 44 * v + 3) → 0 ≤ ln N v l ∧ ln N v l ≤ 999 := by
  intro v l h0 h1 h2 h3
  have q := iV.1 v h0 h1
  unfold vRow at q
  have ql := q.2.2.2.2 l h2 h3
  unfold lRow at ql
  exact ql.2.1.2
theorem abt_bs (hB : sB N) {mi st c : Int} : (0 ≤ abt N mi st c ∧ abt N mi st c < 64) ∧ ∀ s, 0 ≤ s → (tb (abt N mi st c) s ↔ s < N 2 ∧ wi N mi st c s) := by
  have q := bset (P := wi N mi st c) (n := N 2) hB.1 (by have := hB.2.1; omega)
  refine ⟨⟨q.1.1, Int.lt_of_lt_of_le q.1.2 ?_⟩, q.2⟩
  have h2 := hB.2.1
  have : (N 2).toNat ≤ 6 := by omega
  have h3 : (2 : Int) ^ (N 2).toNat ≤ 2 ^ 6 := by
    have := Nat.pow_le_pow_right (n := 2) (by decide) this
    exact_mod_cast this
  exact h3
theorem most_cases (hB : sB N) {mi st c : Int} : (0 ≤ most N mi st c ∧ most N mi st c ≤ 9) ∧ (most N mi st c = 0 ↔ abt N mi st c = 0) := by
  have hb := abt_bs hB (mi := mi) (st := st) (c := c)
  have : ∀ k : Nat, (k : Int) ≤ N 2 → (0 ≤ itr (fun s x => cif (wi N mi st c s) (max x (N (254 + 2 * s + 1))) x) 0 k 0 ∧ itr (fun s x => cif (wi N mi st c s) (max x (N (254 + 2 * s + 1))) x) 0 k 0 ≤ 9) ∧ (itr (fun s x => cif (wi N mi st c s) (max x (N (254 + 2 * s + 1))) x) 0 k 0 = 0 ↔ ∀ s : Int, 0 ≤ s → s < k → ¬ wi N mi st c s) := by
    intro k
    induction k with
    | zero =>
      intro _
      refine ⟨?_, ⟨fun _ s h0 h1 => by omega, fun _ => rfl⟩⟩
      show (0 : Int) ≤ 0 ∧ (0 : Int) ≤ 9
      decide
    | succ k ih =>
      intro hk
      have q := ih (by omega)
      have q2 := (hB.2.2 k (by omega) (by omega)).2
      rw [itr_succ]
      rw [Int.zero_add]
      by_cases hw : wi N mi st c k
      · rw [cif_t hw]
        refine ⟨by omega, ⟨fun z => by omega, fun z => absurd hw (z k (by omega) (by omega))⟩⟩
      · rw [cif_f hw]
        refine ⟨q.1, q.2.trans ⟨fun z s h0 h1 => ?_, fun z s h0 h1 => z s h0 (by omega)⟩⟩
        by_cases hs : s = k
        · rw [hs]; exact hw
        · exact z s h0 (by omega)
  have q := this (N 2).toNat (by have := hB.1; omega)
  refine ⟨q.1, q.2.trans ?_⟩
  constructor
  · intro z
    by_cases hz : abt N mi st c = 0
    · exact hz
    · obtain ⟨s, s0, s1⟩ := tb_ex hb.1.1 hz
      have := (hb.2 s s0).mp s1
      exact absurd this.2 (z s s0 (by have := hB.1; omega))
  · intro z s s0 s1 hw
    have := (hb.2 s s0).mpr ⟨by omega, hw⟩
    rw [z] at this
    exact tb_0 this
theorem abt_bit (hB : sB N) {mi st c s : Int} (s0 : 0 ≤ s) (s1 : s < 6) : jand (jshr (abt N mi st c) s) 1 = bi (s < N 2 ∧ wi N mi st c s) := by
  have hb := abt_bs hB (mi := mi) (st := st) (c := c)
  rw [jbit hb.1.1 (by omega) s0 (by omega)]
  exact bi_cg (hb.2 s s0)
theorem deg_b (hB : sB N) {mi st c : Int} : 0 ≤ deg N mi st c ∧ deg N mi st c ≤ 12 ∧ (0 < deg N mi st c ↔ ¬ abt N mi st c = 0) := by
  have q := most_cases hB (mi := mi) (st := st) (c := c)
  unfold deg
  by_cases z : most N mi st c = 0
  · rw [cif_t z]
    exact ⟨by decide, by decide, ⟨fun y => absurd y (by decide), fun y => absurd (q.2.mp z) y⟩⟩
  · rw [cif_f z]
    have : ¬ abt N mi st c = 0 := fun y => z (q.2.mpr y)
    refine ⟨?_, ?_, ⟨fun _ => this, fun _ => ?_⟩⟩ <;> (split <;> (try split)) <;> omega
theorem L_degree {c mi st : Int} (hr : Rng m) (iN : cNum m (m 247)) (iS : cSto m (m 247)) (iG : cGnd m (m 247)) (hw : ∀ s, 0 ≤ s → s < m 247 2 → isWay (wall (m 247)) (m 247 (254 + 2 * s)) (m (196 + s.toNat))) (h6 : m 202 6 = mi) (h7 : m 202 7 = st) (hst : st = 0 ∨ st = 1) (c0 : 0 ≤ c) (c1 : c < 100) : Z e (d + 3) 23 0 [.ref 202, .int (iI c), .retAddr 0, .retAddr 0, .retAddr 0] [] m = ri (deg (m 247) mi st c) m := by
  have bN := iN
  unfold cNum at bN
  have hB := sB_of iN iS
  have wc : wr c = c := wr_of (by omega) (by omega)
  have ha := L_about (e := e) (d := d) hr iN iS hw h6 h7 hst c0 c1
  have hb := (abt_bs hB (mi := mi) (st := st) (c := c)).1
  have hm := most_cases hB (mi := mi) (st := st) (c := c)
  have wa : wr (abt (m 247) mi st c) = abt (m 247) mi st c := wr_of (by omega) (by omega)
  have gg := iG c c0 c1
  have wg := hr 247 (10 + c)
  unfold deg
  by_cases z : abt (m 247) mi st c = 0
  · rw [cif_t (hm.2.mpr z)]
    simp (disch := first | omega | (simp (disch := first | decide | omega) only [um_k, um_e, um_i, uz_k]; omega) | exact cat_i | exact cat_u | exact cat_r | assumption | exact rfl) only [b_23_0, b_23_5, ha, z, wr_of, ↓reduceIte, ck_T, lt_T, lt_F, le_T, le_F, eq_T, eq_F, and_true, true_and, and_false, false_and, or_true, true_or, or_false, false_or, and_self, or_self, not_true_eq_false, not_false_eq_true, implies_true, forall_const, true_implies, false_implies, ri_k, rn_k, rr_k, wr_bi, bi_e0, bi_e1, bi_T, bi_F, Classical.not_not, itp, itn, ck_t]
  · have z2 : ¬ most (m 247) mi st c = 0 := fun y => z (hm.2.mp y)
    rw [cif_f z2]
    have rest : ∀ (j : Nat) (s y : Int), s + j = 6 → m 247 2 ≤ s → Z e (d + 3) 23 17 [.ref 202, .int (iI c), .int (iI (abt (m 247) mi st c)), .int (iI y), .int (iI s)] [] m = ri (y + (if m 247 (10 + c) = 2 then 1 else if m 247 (10 + c) = 3 then 3 else 0)) m := by
      intro j
      induction j with
      | zero =>
        intro s y hs h2
        refine (b_23_17).trans ?_
        simp (disch := first | omega | (simp (disch := first | decide | omega) only [um_k, um_e, um_i, uz_k]; omega) | exact cat_i | exact cat_u | exact cat_r | assumption | exact rfl) only [b_23_58, wc, gg.1, wg, wr_of, ↓reduceIte, ck_T, lt_T, lt_F, le_T, le_F, eq_T, eq_F, and_true, true_and, and_false, false_and, or_true, true_or, or_false, false_or, and_self, or_self, not_true_eq_false, not_false_eq_true, implies_true, forall_const, true_implies, false_implies, ri_k, rn_k, rr_k, wr_bi, bi_e0, bi_e1, bi_T, bi_F, Classical.not_not, itp, itn, ck_t]
      | succ j ih =>
        intro s y hs h2
        rw [← ih (s + 1) y (by omega) (by omega)]
        refine (b_23_17).trans ?_
        have hbit : jand (jshr (abt (m 247) mi st c) s) 1 = 0 := by rw [abt_bit hB (by omega) (by omega)]; exact bi_f (fun q => by omega)
        simp (disch := first | omega | (simp (disch := first | decide | omega) only [um_k, um_e, um_i, uz_k]; omega) | exact cat_i | exact cat_u | exact cat_r | assumption | exact rfl) only [hbit, wr_of, ↓reduceIte, ck_T, lt_T, lt_F, le_T, le_F, eq_T, eq_F, and_true, true_and, and_false, false_and, or_true, true_or, or_false, false_or, and_self, or_self, not_true_eq_false, not_false_eq_true, implies_true, forall_const, true_implies, false_implies, ri_k, rn_k, rr_k, wr_bi, bi_e0, bi_e1, bi_T, bi_F, Classical.not_not, itp, itn, ck_t]
    have key := lpI (F := fun s y => Z e (d + 3) 23 17 [.ref 202, .int (iI c), .int (iI (abt (m 247) mi st c)), .int (iI y), .int (iI s)] [] m) (f := fun s x => cif (wi (m 247) mi st c s) (max x (m 247 (254 + 2 * s + 1))) x) (I := fun _ y => 0 ≤ y ∧ y ≤ 9) (n := m 247 2) (m 247 2).toNat 0 0 (by have := hB.1; omega) (by decide)
      (by
        intro i y g1 g2 gy
        have q := iS i g1 g2
        have wy : wr y = y := wr_of (by omega) (by omega)
        have wd := hr 247 (254 + 2 * i + 1)
        have hbit := abt_bit hB (mi := mi) (st := st) (c := c) g1 (by omega)
        by_cases a : wi (m 247) mi st c i
        · rw [cif_t a]
          rw [bi_t ⟨g2, a⟩] at hbit
          refine ⟨(b_23_17).trans ?_, by omega⟩
          by_cases b : m 247 (254 + 2 * i + 1) ≤ y
          · rw [show max y (m 247 (254 + 2 * i + 1)) = y by omega]
            simp (disch := first | omega | (simp (disch := first | decide | omega) only [um_k, um_e, um_i, uz_k]; omega) | exact cat_i | exact cat_u | exact cat_r | assumption | exact rfl) only [hbit, get_6, q.2.1, b_23_48, wy, wd, b, wr_of, ↓reduceIte, ck_T, lt_T, lt_F, le_T, le_F, eq_T, eq_F, and_true, true_and, and_false, false_and, or_true, true_or, or_false, false_or, and_self, or_self, not_true_eq_false, not_false_eq_true, implies_true, forall_const, true_implies, false_implies, ri_k, rn_k, rr_k, wr_bi, bi_e0, bi_e1, bi_T, bi_F, Classical.not_not, itp, itn, ck_t]
          · rw [show max y (m 247 (254 + 2 * i + 1)) = m 247 (254 + 2 * i + 1) by omega]
            simp (disch := first | omega | (simp (disch := first | decide | omega) only [um_k, um_e, um_i, uz_k]; omega) | exact cat_i | exact cat_u | exact cat_r | assumption | exact rfl) only [hbit, get_6, q.2.1, b_23_48, wy, wd, b, wr_of, ↓reduceIte, ck_T, lt_T, lt_F, le_T, le_F, eq_T, eq_F, and_true, true_and, and_false, false_and, or_true, true_or, or_false, false_or, and_self, or_self, not_true_eq_false, not_false_eq_true, implies_true, forall_const, true_implies, false_implies, ri_k, rn_k, rr_k, wr_bi, bi_e0, bi_e1, bi_T, bi_F, Classical.not_not, itp, itn, ck_t]
        · rw [cif_f a]
          rw [bi_f (fun z => a z.2)] at hbit
          refine ⟨(b_23_17).trans ?_, gy⟩
          simp (disch := first | omega | (simp (disch := first | decide | omega) only [um_k, um_e, um_i, uz_k]; omega) | exact cat_i | exact cat_u | exact cat_r | assumption | exact rfl) only [hbit, wr_of, ↓reduceIte, ck_T, lt_T, lt_F, le_T, le_F, eq_T, eq_F, and_true, true_and, and_false, false_and, or_true, true_or, or_false, false_or, and_self, or_self, not_true_eq_false, not_false_eq_true, implies_true, forall_const, true_implies, false_implies, ri_k, rn_k, rr_k, wr_bi, bi_e0, bi_e1, bi_T, bi_F, Classical.not_not, itp, itn, ck_t])
    rw [← rest (6 - m 247 2).toNat (m 247 2) (most (m 247) mi st c) (by omega) (by omega)]
    refine Eq.trans ?_ key.1
    simp (disch := first | omega | (simp (disch := first | decide | omega) only [um_k, um_e, um_i, uz_k]; omega) | exact cat_i | exact cat_u | exact cat_r | assumption | exact rfl) only [b_23_0, b_23_5, ha, wa, z, wr_of, ↓reduceIte, ck_T, lt_T, lt_F, le_T, le_F, eq_T, eq_F, and_true, true_and, and_false, false_and, or_true, true_or, or_false, false_or, and_self, or_self, not_true_eq_false, not_false_eq_true, implies_true, forall_const, true_implies, false_implies, ri_k, rn_k, rr_k, wr_bi, bi_e0, bi_e1, bi_T, bi_F, Classical.not_not, itp, itn, ck_t]
theorem timesOf_ok {q : Int} (hr : Rng m) (iN : cNum m (m 247)) (iD : cDee m (m 247)) (q0 : 0 ≤ q) (q1 : q < m 247 4) : Z e (d + 1) 25 0 [.ref 202, .int (iI q), .retAddr 0, .retAddr 0, .retAddr 0] [] m = ri (timS (m 247) q) m := by
  have bN := iN
  unfold cNum at bN
  have dq := (iD q q0 q1).1
  have key := lpG (F := fun i y (u : Value) => Z e (d + 1) 25 4 [.ref 202, .int (iI q), .int (iI y), .int (iI i), u] [] m) (G := fun y => ri y m) (f := fun z n => n + bi ((m 247 (794 + 6 * z + 0) = m 247 (794 + 6 * q + 0) ∧ m 247 (794 + 6 * z + 1) = m 247 (794 + 6 * q + 1)) ∧ m 247 (794 + 6 * z + 3) ≤ m 247 (794 + 6 * q + 3))) (I := fun _ _ => True) (n := m 247 4) (by omega) 0 (.retAddr 0) trivial
    (by
      intro i y u g1 g2 gI
      have di := (iD i g1 g2).1
      have i0 := di 0 (by decide) (by decide)
      have i1 := di 1 (by decide) (by decide)
      have i3 := di 3 (by decide) (by decide)
      have j0 := dq 0 (by decide) (by decide)
      have j1 := dq 1 (by decide) (by decide)
      have j3 := dq 3 (by decide) (by decide)
      by_cases a : m 247 (794 + 6 * i + 0) = m 247 (794 + 6 * q + 0) ∧ m 247 (794 + 6 * i + 1) = m 247 (794 + 6 * q + 1)
      · refine ⟨⟨.int (iI 1), ?_⟩, trivial⟩
        refine (b_25_4).trans ?_
        by_cases b : m 247 (794 + 6 * i + 3) ≤ m 247 (794 + 6 * q + 3)
        · rw [bi_t ⟨a, b⟩]
          obtain ⟨a0, a1⟩ := a
          simp (disch := first | omega | (simp (disch := first | decide | omega) only [um_k, um_e, um_i, uz_k]; omega) | exact cat_i | exact cat_u | exact cat_r | assumption | exact rfl) only [b_25_30, b_25_42, b_25_57, b_25_69, b_25_77, b_25_96, b_25_108, get_8, i0, i1, i3, j0, j1, j3, hr _ _, a0, a1, b, wr_of, ↓reduceIte, ck_T, lt_T, lt_F, le_T, le_F, eq_T, eq_F, and_true, true_and, and_false, false_and, or_true, true_or, or_false, false_or, and_self, or_self, not_true_eq_false, not_false_eq_true, implies_true, forall_const, true_implies, false_implies, ri_k, rn_k, rr_k, wr_bi, bi_e0, bi_e1, bi_T, bi_F, Classical.not_not, itp, itn, ck_t]
        · rw [bi_f (fun z => b z.2), show y + (0 : Int) = y from Int.add_zero y]
          obtain ⟨a0, a1⟩ := a
          simp (disch := first | omega | (simp (disch := first | decide | omega) only [um_k, um_e, um_i, uz_k]; omega) | exact cat_i | exact cat_u | exact cat_r | assumption | exact rfl) only [b_25_30, b_25_42, b_25_57, b_25_69, b_25_77, b_25_96, b_25_108, get_8, i0, i1, i3, j0, j1, j3, hr _ _, a0, a1, b, wr_of, ↓reduceIte, ck_T, lt_T, lt_F, le_T, le_F, eq_T, eq_F, and_true, true_and, and_false, false_and, or_true, true_or, or_false, false_or, and_self, or_self, not_true_eq_false, not_false_eq_true, implies_true, forall_const, true_implies, false_implies, ri_k, rn_k, rr_k, wr_bi, bi_e0, bi_e1, bi_T, bi_F, Classical.not_not, itp, itn, ck_t]
      · refine ⟨⟨.int (iI 0), ?_⟩, trivial⟩
        refine (b_25_4).trans ?_
        rw [bi_f (fun z => a z.1), show y + (0 : Int) = y from Int.add_zero y]
        by_cases a0 : m 247 (794 + 6 * i + 0) = m 247 (794 + 6 * q + 0)
        · have a1 : ¬ m 247 (794 + 6 * i + 1) = m 247 (794 + 6 * q + 1) := fun z => a ⟨a0, z⟩
          simp (disch := first | omega | (simp (disch := first | decide | omega) only [um_k, um_e, um_i, uz_k]; omega) | exact cat_i | exact cat_u | exact cat_r | assumption | exact rfl) only [b_25_30, b_25_42, b_25_57, b_25_69, b_25_77, b_25_96, b_25_108, get_8, i0, i1, i3, j0, j1, j3, hr _ _, a0, a1, wr_of, ↓reduceIte, ck_T, lt_T, lt_F, le_T, le_F, eq_T, eq_F, and_true, true_and, and_false, false_and, or_true, true_or, or_false, false_or, and_self, or_self, not_true_eq_false, not_false_eq_true, implies_true, forall_const, true_implies, false_implies, ri_k, rn_k, rr_k, wr_bi, bi_e0, bi_e1, bi_T, bi_F, Classical.not_not, itp, itn, ck_t]
        · simp (disch := first | omega | (simp (disch := first | decide | omega) only [um_k, um_e, um_i, uz_k]; omega) | exact cat_i | exact cat_u | exact cat_r | assumption | exact rfl) only [b_25_30, b_25_42, b_25_57, b_25_69, b_25_77, b_25_96, b_25_108, get_8, i0, i1, i3, j0, j1, j3, hr _ _, a0, wr_of, ↓reduceIte, ck_T, lt_T, lt_F, le_T, le_F, eq_T, eq_F, and_true, true_and, and_false, false_and, or_true, true_or, or_false, false_or, and_self, or_self, not_true_eq_false, not_false_eq_true, implies_true, forall_const, true_implies, false_implies, ri_k, rn_k, rr_k, wr_bi, bi_e0, bi_e1, bi_T, bi_F, Classical.not_not, itp, itn, ck_t])
    (by
      intro y u gI
      refine (b_25_4).trans ?_
      simp (disch := first | omega | (simp (disch := first | decide | omega) only [um_k, um_e, um_i, uz_k]; omega) | exact cat_i | exact cat_u | exact cat_r | assumption | exact rfl) only [hr _ _, wr_of, ↓reduceIte, ck_T, lt_T, lt_F, le_T, le_F, eq_T, eq_F, and_true, true_and, and_false, false_and, or_true, true_or, or_false, false_or, and_self, or_self, not_true_eq_false, not_false_eq_true, implies_true, forall_const, true_implies, false_implies, ri_k, rn_k, rr_k, wr_bi, bi_e0, bi_e1, bi_T, bi_F, Classical.not_not, itp, itn, ck_t])
  rw [b_25_0]
  exact key.1
theorem mk3 : ∀ a b c : Bool, (jand (jshr (jor (jor (cond a 1 0) (cond b 2 0)) (cond c 4 0)) 0) 1 = cond a 1 0 ∧ jand (jshr (jor (jor (cond a 1 0) (cond b 2 0)) (cond c 4 0)) 1) 1 = cond b 1 0 ∧ jand (jshr (jor (jor (cond a 1 0) (cond b 2 0)) (cond c 4 0)) 2) 1 = cond c 1 0) := by decide +kernel
theorem mk_bits {P Q R : Prop} {a b c i : Int} (ha : (P ∧ a = 1) ∨ (¬ P ∧ a = 0)) (hb : (Q ∧ b = 2) ∨ (¬ Q ∧ b = 0)) (hc : (R ∧ c = 4) ∨ (¬ R ∧ c = 0)) (i0 : 0 ≤ i) (i1 : i < 3) : jand (jshr (jor (jor a b) c) i) 1 = if i = 0 then bi P else if i = 1 then bi Q else bi R := by
  have hi : i = 0 ∨ i = 1 ∨ i = 2 := by omega
  have ea : ∃ A : Bool, a = cond A 1 0 ∧ bi P = cond A 1 0 := by
    rcases ha with ⟨h1, h2⟩ | ⟨h1, h2⟩
    · exact ⟨true, h2, bi_t h1⟩
    · exact ⟨false, h2, bi_f h1⟩
  have eb : ∃ A : Bool, b = cond A 2 0 ∧ bi Q = cond A 1 0 := by
    rcases hb with ⟨h1, h2⟩ | ⟨h1, h2⟩
    · exact ⟨true, h2, bi_t h1⟩
    · exact ⟨false, h2, bi_f h1⟩
  have ec : ∃ A : Bool, c = cond A 4 0 ∧ bi R = cond A 1 0 := by
    rcases hc with ⟨h1, h2⟩ | ⟨h1, h2⟩
    · exact ⟨true, h2, bi_t h1⟩
    · exact ⟨false, h2, bi_f h1⟩
  obtain ⟨A, a1, a2⟩ := ea
  obtain ⟨B, b1, b2⟩ := eb
  obtain ⟨C, c1, c2⟩ := ec
  have q := mk3 A B C
  rw [a1, b1, c1, a2, b2, c2]
  rcases hi with z | z | z
  · subst z; rw [if_pos rfl]; exact q.1
  · subst z; rw [if_neg (by decide), if_pos rfl]; exact q.2.1
  · subst z; rw [if_neg (by decide), if_neg (by decide)]; exact q.2.2
end DG
