/-! The class gathers the lines in force. -/
noncomputable def gstep (N : Int → Int) (v l : Int) (y : List Int × Int × Int × Int) : List Int × Int × Int × Int := (y.1 ++ [100 * v + l], cif (lk N v l = 0) (ln N v l) y.2.1, cif (lk N v l = 1 ∨ lk N v l = 2) (lk N v l - 1) y.2.2.1, cif (lk N v l = 3) (ln N v l) y.2.2.2)
def GA (m0 : zMm) (y : List Int × Int × Int × Int) (m : zMm) : Prop := (∀ k, ¬ k = 202 → ¬ k = 203 → m k = m0 k) ∧ (∀ i, ¬ (5 ≤ i ∧ i ≤ 8) → m 202 i = m0 202 i) ∧ m 202 5 = y.1.length ∧ (∀ i : Nat, i < y.1.length → m 203 i = y.1.getD i 0) ∧ m 202 6 = y.2.1 ∧ m 202 7 = y.2.2.1 ∧ m 202 8 = y.2.2.2 ∧ Rng m
def oA (x : Int) : Int := if x = -3 then -1 else x
/-- what was gathered -/
def Gat (N : Int → Int) (o h : Int) (m : zMm) : Prop := m 202 5 = (lnL N o h).length ∧ (∀ i : Nat, i < (lnL N o h).length → m 203 i = (lnL N o h).getD i 0) ∧ m 202 6 = mile N o h ∧ m 202 7 = strt N o h ∧ m 202 8 = fort N o h
section GT
variable {e : List Int32 × Value} {d : Nat} {m m0 : zMm} {A : List Int} {mi st fo : Int}
theorem GA_app {c : Int} (hc : wr c = c) (hn : A.length < 1000) (h : GA m0 (A, mi, st, fo) m) : GA m0 (A ++ [c], mi, st, fo) (um (um m 203 A.length c) 202 5 (A.length + 1)) := by
  obtain ⟨h1, h2, h3, h4, h5, h6, h7, h8⟩ := h
  dsimp only at h3 h4 h5 h6 h7
  refine ⟨fun k q1 q2 => by rw [um_r q1, um_r q2]; exact h1 k q1 q2, fun i q => by rw [um_i (by omega), um_k (by decide)]; exact h2 i q, ?_, fun i q => ?_, ?_, ?_, ?_, (h8.um hc).um (wr_of (by omega) (by omega))⟩
  · rw [um_s]; simp
  · dsimp only at q ⊢
    rw [um_k (by decide)]
    rw [List.length_append, List.length_singleton] at q
    by_cases hi : i < A.length
    · rw [um_i (by omega), List.getD_eq_getElem?_getD, List.getElem?_append_left hi, ← List.getD_eq_getElem?_getD]
      exact h4 i hi
    · have : i = A.length := by omega
      subst this
      rw [um_s]
      simp
  · rw [um_i (by decide), um_k (by decide)]; exact h5
  · rw [um_i (by decide), um_k (by decide)]; exact h6
  · rw [um_i (by decide), um_k (by decide)]; exact h7
theorem GA_6 {x : Int} (hx : wr x = x) (h : GA m0 (A, mi, st, fo) m) : GA m0 (A, x, st, fo) (um m 202 6 x) := by
  obtain ⟨h1, h2, h3, h4, h5, h6, h7, h8⟩ := h
  exact ⟨fun k q1 q2 => by rw [um_r q1]; exact h1 k q1 q2, fun i q => by rw [um_i (by omega)]; exact h2 i q, by rw [um_i (by decide)]; exact h3, fun i q => by rw [um_k (by decide)]; exact h4 i q, um_s, by rw [um_i (by decide)]; exact h6, by rw [um_i (by decide)]; exact h7, h8.um hx⟩
theorem GA_7 {x : Int} (hx : wr x = x) (h : GA m0 (A, mi, st, fo) m) : GA m0 (A, mi, x, fo) (um m 202 7 x) := by
  obtain ⟨h1, h2, h3, h4, h5, h6, h7, h8⟩ := h
  exact ⟨fun k q1 q2 => by rw [um_r q1]; exact h1 k q1 q2, fun i q => by rw [um_i (by omega)]; exact h2 i q, by rw [um_i (by decide)]; exact h3, fun i q => by rw [um_k (by decide)]; exact h4 i q, by rw [um_i (by decide)]; exact h5, um_s, by rw [um_i (by decide)]; exact h7, h8.um hx⟩
theorem GA_8 {x : Int} (hx : wr x = x) (h : GA m0 (A, mi, st, fo) m) : GA m0 (A, mi, st, x) (um m 202 8 x) := by
  obtain ⟨h1, h2, h3, h4, h5, h6, h7, h8⟩ := h
  exact ⟨fun k q1 q2 => by rw [um_r q1]; exact h1 k q1 q2, fun i q => by rw [um_i (by omega)]; exact h2 i q, by rw [um_i (by decide)]; exact h3, fun i q => by rw [um_k (by decide)]; exact h4 i q, by rw [um_i (by decide)]; exact h5, by rw [um_i (by decide)]; exact h6, um_s, h8.um hx⟩
theorem addL_step {v l : Int} {u : Value} (b3 : m0 247 3 ≤ 12) (iV : cVer m0 (m0 247)) (v0 : 0 ≤ v) (v1 : v < m0 247 3) (l0 : 0 ≤ l) (l1 : l < m0 247 (266 + 44 * v + 3)) (hn : A.length < 30) (h : GA m0 (A, mi, st, fo) m) : ∃ m' u', Z e d 21 23 [.ref 202, .int (iI v), .ref (18 + 6 * v.toNat), .int (iI l), u] [] m = Z e d 21 23 [.ref 202, .int (iI v), .ref (18 + 6 * v.toNat), .int (iI (l + 1)), u'] [] m' ∧ GA m0 (gstep (m0 247) v l (A, mi, st, fo)) m' := by
  have q := iV.1 v v0 v1
  unfold vRow at q
  obtain ⟨_, _, _, q4, q5⟩ := q
  have ql := q5 l l0 l1
  unfold lRow at ql
  obtain ⟨⟨k1, k2, k3⟩, ⟨n1, n2, n3⟩, _⟩ := ql
  have hb := GA_app (c := 100 * v + l) (wr_of (by omega) (by omega)) (by omega) h
  have f : ∀ k, ¬ k = 202 → ¬ k = 203 → m k = m0 k := h.1
  have e3 : m (18 + 6 * v.toNat) 3 = m0 247 (266 + 44 * v + 3) := by rw [f _ (by omega) (by omega)]; exact q4.1
  have e1 : m (18 + 6 * v.toNat + 1) l = lk (m0 247) v l := by rw [f _ (by omega) (by omega)]; exact k1
  have e2 : m (18 + 6 * v.toNat + 2) l = ln (m0 247) v l := by rw [f _ (by omega) (by omega)]; exact n1
  have e5 : m 202 5 = A.length := h.2.2.1
  have kb : 0 ≤ lk (m0 247) v l ∧ lk (m0 247) v l ≤ 6 := ⟨k2, k3⟩
  have nb : 0 ≤ ln (m0 247) v l ∧ ln (m0 247) v l ≤ 999 := ⟨n2, n3⟩
  have hV := zVer_0 (j := v) ⟨v0, by omega⟩
  have wn : wr (ln (m0 247) v l) = ln (m0 247) v l := wr_of (by omega) (by omega)
  unfold gstep
  by_cases c0 : lk (m0 247) v l = 0
  · refine ⟨_, .int (iI (lk (m0 247) v l)), (b_21_23 hV).trans ?_, by dsimp only; rw [cif_t c0, cif_f (by omega), cif_f (by omega)]; exact GA_6 wn hb⟩
    simp (disch := first | omega | (simp (disch := first | decide | omega) only [um_k, um_e, um_i, uz_k]; omega) | exact cat_i | exact cat_u | exact cat_r | assumption | exact rfl) only [b_21_97 hV, b_21_113 hV, b_21_124 hV, e1, e2, e3, e5, um_r, um_k, um_i, um_e, uz_r, uz_k, uz_i, uz_in, wr_of, ↓reduceIte, ck_T, lt_T, lt_F, le_T, le_F, eq_T, eq_F, and_true, true_and, and_false, false_and, or_true, true_or, or_false, false_or, and_self, or_self, not_true_eq_false, not_false_eq_true, implies_true, forall_const, true_implies, false_implies, ri_k, rn_k, rr_k, wr_bi, bi_e0, bi_e1, bi_T, bi_F, Classical.not_not, itp, itn, ck_t]
  · by_cases c3 : lk (m0 247) v l = 3
    · refine ⟨_, .int (iI (lk (m0 247) v l)), (b_21_23 hV).trans ?_, by dsimp only; rw [cif_f (by omega), cif_f (by omega), cif_t c3]; exact GA_8 wn hb⟩
      simp (disch := first | omega | (simp (disch := first | decide | omega) only [um_k, um_e, um_i, uz_k]; omega) | exact cat_i | exact cat_u | exact cat_r | assumption | exact rfl) only [b_21_97 hV, b_21_113 hV, b_21_124 hV, e1, e2, e3, e5, um_r, um_k, um_i, um_e, uz_r, uz_k, uz_i, uz_in, wr_of, ↓reduceIte, ck_T, lt_T, lt_F, le_T, le_F, eq_T, eq_F, and_true, true_and, and_false, false_and, or_true, true_or, or_false, false_or, and_self, or_self, not_true_eq_false, not_false_eq_true, implies_true, forall_const, true_implies, false_implies, ri_k, rn_k, rr_k, wr_bi, bi_e0, bi_e1, bi_T, bi_F, Classical.not_not, itp, itn, ck_t]
    · by_cases c1 : lk (m0 247) v l = 1
      · refine ⟨_, .int (iI (lk (m0 247) v l)), (b_21_23 hV).trans ?_, by dsimp only; rw [cif_f (by omega), cif_t (by omega), cif_f (by omega), c1]; exact GA_7 (x := 0) rfl hb⟩
        simp (disch := first | omega | (simp (disch := first | decide | omega) only [um_k, um_e, um_i, uz_k]; omega) | exact cat_i | exact cat_u | exact cat_r | assumption | exact rfl) only [b_21_97 hV, b_21_113 hV, b_21_124 hV, e1, e2, e3, e5, um_r, um_k, um_i, um_e, uz_r, uz_k, uz_i, uz_in, wr_of, ↓reduceIte, ck_T, lt_T, lt_F, le_T, le_F, eq_T, eq_F, and_true, true_and, and_false, false_and, or_true, true_or, or_false, false_or, and_self, or_self, not_true_eq_false, not_false_eq_true, implies_true, forall_const, true_implies, false_implies, ri_k, rn_k, rr_k, wr_bi, bi_e0, bi_e1, bi_T, bi_F, Classical.not_not, itp, itn, ck_t]
      · by_cases c2 : lk (m0 247) v l = 2
        · refine ⟨_, .int (iI (lk (m0 247) v l)), (b_21_23 hV).trans ?_, by dsimp only; rw [cif_f (by omega), cif_t (by omega), cif_f (by omega), c2]; exact GA_7 (x := 1) rfl hb⟩
          simp (disch := first | omega | (simp (disch := first | decide | omega) only [um_k, um_e, um_i, uz_k]; omega) | exact cat_i | exact cat_u | exact cat_r | assumption | exact rfl) only [b_21_97 hV, b_21_113 hV, b_21_124 hV, e1, e2, e3, e5, um_r, um_k, um_i, um_e, uz_r, uz_k, uz_i, uz_in, wr_of, ↓reduceIte, ck_T, lt_T, lt_F, le_T, le_F, eq_T, eq_F, and_true, true_and, and_false, false_and, or_true, true_or, or_false, false_or, and_self, or_self, not_true_eq_false, not_false_eq_true, implies_true, forall_const, true_implies, false_implies, ri_k, rn_k, rr_k, wr_bi, bi_e0, bi_e1, bi_T, bi_F, Classical.not_not, itp, itn, ck_t]
        · refine ⟨_, .int (iI (lk (m0 247) v l)), (b_21_23 hV).trans ?_, by dsimp only; rw [cif_f (by omega), cif_f (by omega), cif_f (by omega)]; exact hb⟩
          simp (disch := first | omega | (simp (disch := first | decide | omega) only [um_k, um_e, um_i, uz_k]; omega) | exact cat_i | exact cat_u | exact cat_r | assumption | exact rfl) only [b_21_97 hV, b_21_113 hV, b_21_124 hV, e1, e2, e3, e5, um_r, um_k, um_i, um_e, uz_r, uz_k, uz_i, uz_in, wr_of, ↓reduceIte, ck_T, lt_T, lt_F, le_T, le_F, eq_T, eq_F, and_true, true_and, and_false, false_and, or_true, true_or, or_false, false_or, and_self, or_self, not_true_eq_false, not_false_eq_true, implies_true, forall_const, true_implies, false_implies, ri_k, rn_k, rr_k, wr_bi, bi_e0, bi_e1, bi_T, bi_F, Classical.not_not, itp, itn, ck_t]
theorem addLines_ok {v : Int} {y : List Int × Int × Int × Int} (hr0 : Rng m0) (b3 : m0 247 3 ≤ 12) (iV : cVer m0 (m0 247)) (v0 : 0 ≤ v) (v1 : v < m0 247 3) (hn : y.1.length ≤ 20) (h : GA m0 y m) : ∃ m', Z e d 21 0 [.ref 202, .int (iI v), .retAddr 0, .retAddr 0, .retAddr 0] [] m = rn m' ∧ GA m0 (lnV (m0 247) (gstep (m0 247)) v y) m' ∧ (lnV (m0 247) (gstep (m0 247)) v y).1.length ≤ y.1.length + 10 := by
  have q := iV.1 v v0 v1
  unfold vRow at q
  obtain ⟨_, _, _, q4, _⟩ := q
  have hV := zVer_0 (j := v) ⟨v0, by omega⟩
  have : ∀ (j : Nat) (l : Int) (y : List Int × Int × Int × Int) (m : zMm) (u : Value), l + j = m0 247 (266 + 44 * v + 3) → 0 ≤ l → (y.1.length : Int) + j ≤ 30 → GA m0 y m → ∃ m', Z e d 21 23 [.ref 202, .int (iI v), .ref (18 + 6 * v.toNat), .int (iI l), u] [] m = rn m' ∧ GA m0 (itr (fun l y => gstep (m0 247) v l y) l j y) m' ∧ (itr (fun l y => gstep (m0 247) v l y) l j y).1.length = y.1.length + j := by
    intro j
    induction j with
    | zero =>
      intro l y m u hl l0 hn h
      refine ⟨m, (b_21_23 hV).trans ?_, h, rfl⟩
      have e3 : m (18 + 6 * v.toNat) 3 = m0 247 (266 + 44 * v + 3) := by rw [h.1 _ (by omega) (by omega)]; exact q4.1
      simp (disch := first | omega | (simp (disch := first | decide | omega) only [um_k, um_e, um_i, uz_k]; omega) | exact cat_i | exact cat_u | exact cat_r | assumption | exact rfl) only [e3, wr_of, ↓reduceIte, ck_T, lt_T, lt_F, le_T, le_F, eq_T, eq_F, and_true, true_and, and_false, false_and, or_true, true_or, or_false, false_or, and_self, or_self, not_true_eq_false, not_false_eq_true, implies_true, forall_const, true_implies, false_implies, ri_k, rn_k, rr_k, wr_bi, bi_e0, bi_e1, bi_T, bi_F, Classical.not_not, itp, itn, ck_t]
    | succ j ih =>
      intro l y m u hl l0 hn h
      obtain ⟨A, mi, st, fo⟩ := y
      dsimp only at hn
      obtain ⟨m1, u1, a1, a2⟩ := addL_step (e := e) (d := d) (u := u) b3 iV v0 v1 l0 (by omega) (by omega) h
      have hl1 : (gstep (m0 247) v l (A, mi, st, fo)).1.length = A.length + 1 := by unfold gstep; simp
      obtain ⟨m2, c1, c2, c3⟩ := ih (l + 1) (gstep (m0 247) v l (A, mi, st, fo)) m1 u1 (by omega) (by omega) (by omega) a2
      refine ⟨m2, by rw [a1]; exact c1, c2, ?_⟩
      rw [itr, c3, hl1]
      dsimp only
      omega
  obtain ⟨m1, a1, a2, a3⟩ := this (m0 247 (266 + 44 * v + 3)).toNat 0 y m (.retAddr 0) (by omega) (by omega) (by omega) h
  have e : lnV (m0 247) (gstep (m0 247)) v y = itr (fun l y => gstep (m0 247) v l y) 0 (m0 247 (266 + 44 * v + 3)).toNat y := cif_t v0
  rw [e]
  refine ⟨m1, ?_, a2, by omega⟩
  rw [b_21_0]
  simp (disch := first | omega | (simp (disch := first | decide | omega) only [um_k, um_e, um_i, uz_k]; omega) | exact cat_i | exact cat_u | exact cat_r | assumption | exact rfl) only [a1, wr_of, ↓reduceIte, ck_T, lt_T, lt_F, le_T, le_F, eq_T, eq_F, and_true, true_and, and_false, false_and, or_true, true_or, or_false, false_or, and_self, or_self, not_true_eq_false, not_false_eq_true, implies_true, forall_const, true_implies, false_implies, ri_k, rn_k, rr_k, wr_bi, bi_e0, bi_e1, bi_T, bi_F, Classical.not_not, itp, itn, ck_t]
theorem in_one {N : Int → Int} {F : zMm} {c h v : Int} (b3 : 0 ≤ N 3) (iV : cVer F N) (v0 : 0 ≤ v) (v1 : v < N 3) : (N (266 + 44 * v + 0) = c ∧ inF N v h) ↔ v = vOf N (-1) c h := by
  constructor
  · intro q
    refine (vOf_one v0 v1 ⟨q.1, Or.inr ⟨by decide, q.2⟩⟩ (fun v' h0 h1 h2 h3 => ?_)).symm
    have q3 : inF N v' h := by
      rcases h3.2 with z | z
      · omega
      · exact z.2
    have q4 := q.2
    unfold inF at q3 q4
    by_cases hlt : v' < v
    · have z := iV.2 v' v h0 hlt v1 (by rw [h3.1, q.1])
      omega
    · have z := iV.2 v v' v0 (by omega) h1 (by rw [h3.1, q.1])
      omega
  · intro q
    rcases vOf_b (N := N) (o := -1) (c := c) (h := h) b3 with z | z
    · omega
    · rw [← q] at z
      refine ⟨z.2.2.1, ?_⟩
      rcases z.2.2.2 with w | w
      · omega
      · exact w.2
theorem gather_ok {h : Int} (hr : Rng m) (iN : cNum m (m 247)) (iV : cVer m (m 247)) (hh : wr h = h) (hal : m 202 3 = -3 ∨ (0 ≤ m 202 3 ∧ m 202 3 < m 247 3)) : ∃ m', Z e (d + 1) 20 0 [.ref 202, .int (iI h), .retAddr 0, .retAddr 0, .retAddr 0] [] m = rn m' ∧ GA m (lnF (m 247) (oA (m 202 3)) h (gstep (m 247)) ([], 3, 0, 40)) m' := by
  have bN := iN
  unfold cNum at bN
  have g0 : GA m ([], 3, 0, 40) (um (um (um (um m 202 5 0) 202 6 3) 202 7 0) 202 8 40) := by
    refine ⟨fun k q1 q2 => by simp (disch := first | omega | (simp (disch := first | decide | omega) only [um_k, um_e, um_i, uz_k]; omega) | exact cat_i | exact cat_u | exact cat_r | assumption | exact rfl) only [um_r, um_k, um_i, um_e, uz_r, uz_k, uz_i, uz_in], fun i q => by simp (disch := first | omega | (simp (disch := first | decide | omega) only [um_k, um_e, um_i, uz_k]; omega) | exact cat_i | exact cat_u | exact cat_r | assumption | exact rfl) only [um_r, um_k, um_i, um_e, uz_r, uz_k, uz_i, uz_in], by simp (disch := first | omega | (simp (disch := first | decide | omega) only [um_k, um_e, um_i, uz_k]; omega) | exact cat_i | exact cat_u | exact cat_r | assumption | exact rfl) only [um_r, um_k, um_i, um_e, uz_r, uz_k, uz_i, uz_in]; rfl, fun i q => absurd q (Nat.not_lt_zero _), by simp (disch := first | omega | (simp (disch := first | decide | omega) only [um_k, um_e, um_i, uz_k]; omega) | exact cat_i | exact cat_u | exact cat_r | assumption | exact rfl) only [um_r, um_k, um_i, um_e, uz_r, uz_k, uz_i, uz_in], by simp (disch := first | omega | (simp (disch := first | decide | omega) only [um_k, um_e, um_i, uz_k]; omega) | exact cat_i | exact cat_u | exact cat_r | assumption | exact rfl) only [um_r, um_k, um_i, um_e, uz_r, uz_k, uz_i, uz_in], by simp (disch := first | omega | (simp (disch := first | decide | omega) only [um_k, um_e, um_i, uz_k]; omega) | exact cat_i | exact cat_u | exact cat_r | assumption | exact rfl) only [um_r, um_k, um_i, um_e, uz_r, uz_k, uz_i, uz_in], ?_⟩
    exact (((hr.um rfl).um rfl).um rfl).um rfl
  have e3 : (um (um (um (um m 202 5 0) 202 6 3) 202 7 0) 202 8 40) 202 3 = m 202 3 := by simp (disch := first | omega | (simp (disch := first | decide | omega) only [um_k, um_e, um_i, uz_k]; omega) | exact cat_i | exact cat_u | exact cat_r | assumption | exact rfl) only [um_r, um_k, um_i, um_e, uz_r, uz_k, uz_i, uz_in]
  by_cases ha : m 202 3 = -3
  · have eo : oA (m 202 3) = -1 := if_pos ha
    rw [eo]
    have inner : ∀ (c : Int), 0 ≤ c → c < 3 → ∀ (j : Nat) (v : Int) (y : List Int × Int × Int × Int) (m1 : zMm) (u : Value), v + j = m 247 3 → 0 ≤ v → (v ≤ vOf (m 247) (-1) c h → y.1.length ≤ 20) → GA m y m1 → ∃ m' u', Z e (d + 1) 20 48 [.ref 202, .int (iI h), .int (iI c), .int (iI v), u] [] m1 = Z e (d + 1) 20 41 [.ref 202, .int (iI h), .int (iI (c + 1)), .int (iI (m 247 3)), u'] [] m' ∧ GA m (cif (v ≤ vOf (m 247) (-1) c h) (lnV (m 247) (gstep (m 247)) (vOf (m 247) (-1) c h) y) y) m' ∧ (cif (v ≤ vOf (m 247) (-1) c h) (lnV (m 247) (gstep (m 247)) (vOf (m 247) (-1) c h) y) y).1.length ≤ y.1.length + 10 := by
      intro c c0 c1 j
      induction j with
      | zero =>
        intro v y m1 u hv v0 hn hg
        have hlt : ¬ v ≤ vOf (m 247) (-1) c h := by
          intro q
          have := vOf_lt (N := m 247) (o := -1) (h := h) (c := c) (by omega) (by omega)
          omega
        rw [cif_f hlt]
        refine ⟨m1, u, (b_20_48).trans ?_, hg, by omega⟩
        have e2 : m1 1 2 = m 247 3 := by rw [hg.1 1 (by decide) (by decide)]; exact bN.2.2.2.1.1
        have : v = m 247 3 := by omega
        subst this
        simp (disch := first | omega | (simp (disch := first | decide | omega) only [um_k, um_e, um_i, uz_k]; omega) | exact cat_i | exact cat_u | exact cat_r | assumption | exact rfl) only [e2, wr_of, ↓reduceIte, ck_T, lt_T, lt_F, le_T, le_F, eq_T, eq_F, and_true, true_and, and_false, false_and, or_true, true_or, or_false, false_or, and_self, or_self, not_true_eq_false, not_false_eq_true, implies_true, forall_const, true_implies, false_implies, ri_k, rn_k, rr_k, wr_bi, bi_e0, bi_e1, bi_T, bi_F, Classical.not_not, itp, itn, ck_t]
      | succ j ih =>
        intro v y m1 u hv v0 hn hg
        have q := iV.1 v v0 (by omega)
        unfold vRow at q
        have f := hg.1
        have e2 : m1 1 2 = m 247 3 := by rw [f 1 (by decide) (by decide)]; exact bN.2.2.2.1.1
        have a0 : m1 (18 + 6 * v.toNat) 0 = m 247 (266 + 44 * v + 0) := by rw [f _ (by omega) (by omega)]; exact q.1.1
        have a1 : m1 (18 + 6 * v.toNat) 1 = m 247 (266 + 44 * v + 1) := by rw [f _ (by omega) (by omega)]; exact q.2.1.1
        have a2 : m1 (18 + 6 * v.toNat) 2 = m 247 (266 + 44 * v + 2) := by rw [f _ (by omega) (by omega)]; exact q.2.2.1.1
        have w0 := hr 247 (266 + 44 * v + 0)
        have w1 := hr 247 (266 + 44 * v + 1)
        have w2 := hr 247 (266 + 44 * v + 2)
        have one := in_one (c := c) (h := h) (by omega) iV v0 (by omega)
        by_cases hm : v = vOf (m 247) (-1) c h
        · have hq := one.mpr hm
          obtain ⟨m2, p1, p2, p3⟩ := addLines_ok (e := e) (d := d) hr (by omega) iV v0 (by omega) (hn (by omega)) hg
          obtain ⟨m3, u3, r1, r2, r3⟩ := ih (v + 1) (lnV (m 247) (gstep (m 247)) v y) m2 (.ref (18 + 6 * v.toNat)) (by omega) (by omega) (fun z => by omega) p2
          rw [cif_f (by omega)] at r2 r3
          refine ⟨m3, u3, ?_, by rw [cif_t (by omega), ← hm]; exact r2, by rw [cif_t (by omega), ← hm]; omega⟩
          rw [← r1]
          refine (b_20_48).trans ?_
          have hc2 : m 247 (266 + 44 * v + 0) = c ∧ (m 247 (266 + 44 * v + 1) ≤ h ∧ (m 247 (266 + 44 * v + 2) = -3 ∨ h < m 247 (266 + 44 * v + 2))) := hq
          simp (disch := first | omega | (simp (disch := first | decide | omega) only [um_k, um_e, um_i, uz_k]; omega) | exact cat_i | exact cat_u | exact cat_r | assumption | exact rfl) only [e2, a0, a1, a2, w0, w1, w2, hh, hc2, p1, b_20_99, wr_of, ↓reduceIte, ck_T, lt_T, lt_F, le_T, le_F, eq_T, eq_F, and_true, true_and, and_false, false_and, or_true, true_or, or_false, false_or, and_self, or_self, not_true_eq_false, not_false_eq_true, implies_true, forall_const, true_implies, false_implies, ri_k, rn_k, rr_k, wr_bi, bi_e0, bi_e1, bi_T, bi_F, Classical.not_not, itp, itn, ck_t]
        · have hq := fun z => hm (one.mp z)
          obtain ⟨m3, u3, r1, r2, r3⟩ := ih (v + 1) y m1 (.ref (18 + 6 * v.toNat)) (by omega) (by omega) (fun z => hn (by omega)) hg
          have ec : cif (v ≤ vOf (m 247) (-1) c h) (lnV (m 247) (gstep (m 247)) (vOf (m 247) (-1) c h) y) y = cif (v + 1 ≤ vOf (m 247) (-1) c h) (lnV (m 247) (gstep (m 247)) (vOf (m 247) (-1) c h) y) y := cif_cg (by omega)
          rw [ec]
          refine ⟨m3, u3, ?_, r2, r3⟩
          rw [← r1]
          refine (b_20_48).trans ?_
          have hc2 : ¬ (m 247 (266 + 44 * v + 0) = c ∧ (m 247 (266 + 44 * v + 1) ≤ h ∧ (m 247 (266 + 44 * v + 2) = -3 ∨ h < m 247 (266 + 44 * v + 2)))) := hq
          simp (disch := first | omega | (simp (disch := first | decide | omega) only [um_k, um_e, um_i, uz_k]; omega) | exact cat_i | exact cat_u | exact cat_r | assumption | exact rfl) only [e2, a0, a1, a2, w0, w1, w2, hh, b_20_99, hc2, wr_of, ↓reduceIte, ck_T, lt_T, lt_F, le_T, le_F, eq_T, eq_F, and_true, true_and, and_false, false_and, or_true, true_or, or_false, false_or, and_self, or_self, not_true_eq_false, not_false_eq_true, implies_true, forall_const, true_implies, false_implies, ri_k, rn_k, rr_k, wr_bi, bi_e0, bi_e1, bi_T, bi_F, Classical.not_not, itp, itn, ck_t]
    have outer : ∀ (j : Nat) (c : Int) (y : List Int × Int × Int × Int) (m1 : zMm) (u3 u4 : Value), c + j = 3 → 0 ≤ c → (y.1.length : Int) ≤ 10 * c → GA m y m1 → ∃ m', Z e (d + 1) 20 41 [.ref 202, .int (iI h), .int (iI c), u3, u4] [] m1 = rn m' ∧ GA m (itr (fun c y => lnV (m 247) (gstep (m 247)) (vOf (m 247) (-1) c h) y) c j y) m' := by
      intro j
      induction j with
      | zero =>
        intro c y m1 u3 u4 hc c0 hn hg
        refine ⟨m1, (b_20_41).trans ?_, hg⟩
        simp (disch := first | omega | (simp (disch := first | decide | omega) only [um_k, um_e, um_i, uz_k]; omega) | exact cat_i | exact cat_u | exact cat_r | assumption | exact rfl) only [wr_of, ↓reduceIte, ck_T, lt_T, lt_F, le_T, le_F, eq_T, eq_F, and_true, true_and, and_false, false_and, or_true, true_or, or_false, false_or, and_self, or_self, not_true_eq_false, not_false_eq_true, implies_true, forall_const, true_implies, false_implies, ri_k, rn_k, rr_k, wr_bi, bi_e0, bi_e1, bi_T, bi_F, Classical.not_not, itp, itn, ck_t]
      | succ j ih =>
        intro c y m1 u3 u4 hc c0 hn hg
        obtain ⟨m2, u2, p1, p2, p3⟩ := inner c c0 (by omega) (m 247 3).toNat 0 y m1 u4 (by omega) (by omega) (fun _ => by omega) hg
        have ec : cif (0 ≤ vOf (m 247) (-1) c h) (lnV (m 247) (gstep (m 247)) (vOf (m 247) (-1) c h) y) y = lnV (m 247) (gstep (m 247)) (vOf (m 247) (-1) c h) y := by
          by_cases q : 0 ≤ vOf (m 247) (-1) c h
          · rw [cif_t q]
          · rw [cif_f q]; exact (cif_f q).symm
        rw [ec] at p2 p3
        obtain ⟨m3, r1, r2⟩ := ih (c + 1) _ m2 (.int (iI (m 247 3))) u2 (by omega) (by omega) (by omega) p2
        refine ⟨m3, ?_, r2⟩
        rw [← r1, ← p1]
        refine (b_20_41).trans ?_
        simp (disch := first | omega | (simp (disch := first | decide | omega) only [um_k, um_e, um_i, uz_k]; omega) | exact cat_i | exact cat_u | exact cat_r | assumption | exact rfl) only [wr_of, ↓reduceIte, ck_T, lt_T, lt_F, le_T, le_F, eq_T, eq_F, and_true, true_and, and_false, false_and, or_true, true_or, or_false, false_or, and_self, or_self, not_true_eq_false, not_false_eq_true, implies_true, forall_const, true_implies, false_implies, ri_k, rn_k, rr_k, wr_bi, bi_e0, bi_e1, bi_T, bi_F, Classical.not_not, itp, itn, ck_t]
    obtain ⟨m1, a1, a2⟩ := outer 3 0 ([], 3, 0, 40) _ (.retAddr 0) (.retAddr 0) (by decide) (by decide) (by decide) g0
    refine ⟨m1, ?_, a2⟩
    rw [← a1, b_20_0]
    simp (disch := first | omega | (simp (disch := first | decide | omega) only [um_k, um_e, um_i, uz_k]; omega) | exact cat_i | exact cat_u | exact cat_r | assumption | exact rfl) only [e3, ha, wr_of, ↓reduceIte, ck_T, lt_T, lt_F, le_T, le_F, eq_T, eq_F, and_true, true_and, and_false, false_and, or_true, true_or, or_false, false_or, and_self, or_self, not_true_eq_false, not_false_eq_true, implies_true, forall_const, true_implies, false_implies, ri_k, rn_k, rr_k, wr_bi, bi_e0, bi_e1, bi_T, bi_F, Classical.not_not, itp, itn, ck_t]
  · have hb : 0 ≤ m 202 3 ∧ m 202 3 < m 247 3 := by
      rcases hal with z | z
      · exact absurd z ha
      · exact z
    have eo : oA (m 202 3) = m 202 3 := if_neg ha
    have q := iV.1 (m 202 3) hb.1 hb.2
    unfold vRow at q
    rw [eo, lnF_one hb.1 hb.2 q.1.2.1 q.1.2.2]
    obtain ⟨m1, a1, a2, a3⟩ := addLines_ok (e := e) (d := d) hr (by omega) iV hb.1 hb.2 (by decide) g0
    refine ⟨m1, ?_, a2⟩
    rw [b_20_0]
    simp (disch := first | omega | (simp (disch := first | decide | omega) only [um_k, um_e, um_i, uz_k]; omega) | exact cat_i | exact cat_u | exact cat_r | assumption | exact rfl) only [e3, hr _ _, ha, a1, b_20_38, wr_of, ↓reduceIte, ck_T, lt_T, lt_F, le_T, le_F, eq_T, eq_F, and_true, true_and, and_false, false_and, or_true, true_or, or_false, false_or, and_self, or_self, not_true_eq_false, not_false_eq_true, implies_true, forall_const, true_implies, false_implies, ri_k, rn_k, rr_k, wr_bi, bi_e0, bi_e1, bi_T, bi_F, Classical.not_not, itp, itn, ck_t]
theorem GA_Gat {o h : Int} (hB : vB (m0 247)) (g : GA m0 (lnF (m0 247) o h (gstep (m0 247)) ([], 3, 0, 40)) m) : Gat (m0 247) o h m := by
  obtain ⟨h1, h2, h3, h4, h5, h6, h7, h8⟩ := g
  have e1 : (lnF (m0 247) o h (gstep (m0 247)) ([], 3, 0, 40)).1 = lnL (m0 247) o h := lnF_hom (φ := fun y : List Int × Int × Int × Int => y.1) (g' := fun v l y => y ++ [100 * v + l]) hB (fun v l y _ _ _ _ _ => rfl) _
  have e2 : (lnF (m0 247) o h (gstep (m0 247)) ([], 3, 0, 40)).2.1 = mile (m0 247) o h := lnF_hom (φ := fun y : List Int × Int × Int × Int => y.2.1) (g' := fun v l x => cif (lk (m0 247) v l = 0) (ln (m0 247) v l) x) hB (fun v l y _ _ _ _ _ => rfl) _
  have e4 : (lnF (m0 247) o h (gstep (m0 247)) ([], 3, 0, 40)).2.2.1 = strt (m0 247) o h := lnF_hom (φ := fun y : List Int × Int × Int × Int => y.2.2.1) (g' := fun v l x => cif (lk (m0 247) v l = 1 ∨ lk (m0 247) v l = 2) (lk (m0 247) v l - 1) x) hB (fun v l y _ _ _ _ _ => rfl) _
  have e5 : (lnF (m0 247) o h (gstep (m0 247)) ([], 3, 0, 40)).2.2.2 = fort (m0 247) o h := lnF_hom (φ := fun y : List Int × Int × Int × Int => y.2.2.2) (g' := fun v l x => cif (lk (m0 247) v l = 3) (ln (m0 247) v l) x) hB (fun v l y _ _ _ _ _ => rfl) _
  rw [e1] at h3 h4
  exact ⟨h3, h4, h5.trans e2, h6.trans e4, h7.trans e5⟩
end GT
