/-! The reference: what is ruled, degrees, facts. -/
theorem cif_T {α : Type} {a b : α} : cif True a b = a := cif_t trivial
theorem cif_F {α : Type} {a b : α} : cif False a b = b := cif_f id
noncomputable def rst0 (N : Int → Int) (w v l x : Int) : Int := if w = 0 then cif (lk N v l = 0) (ln N v l) x else if w = 1 then cif (lk N v l = 1 ∨ lk N v l = 2) (lk N v l - 1) x else cif (lk N v l = 3) (ln N v l) x
def rs0 (w : Int) : Int := if w = 0 then 3 else if w = 1 then 0 else 40
section MR
variable {e : List Int32 × Value} {d : Nat} {m m0 : zMm} {N : Int → Int}
theorem rul_in {h w c v : Int} (hr : Rng m) (hB : vB (m 247)) (w0 : w = 0 ∨ w = 1 ∨ w = 2) (v0 : 0 ≤ v) (v1 : v < m 247 3) : ∀ (j : Nat) (l x : Int) (u7 u8 : Value), l + j = m 247 (266 + 44 * v + 3) → 0 ≤ l → ∃ u7' u8', Z e (d + 3) 221 41 [.ref 246, .int (iI h), .int (iI w), .int (iI x), .int (iI c), .int (iI v), .int (iI l), u7, u8] [] m = Z e (d + 3) 221 23 [.ref 246, .int (iI h), .int (iI w), .int (iI (itr (fun l y => rst0 (m 247) w v l y) l j x)), .int (iI (c + 1)), .int (iI v), .int (iI (m 247 (266 + 44 * v + 3))), u7', u8'] [] m := by
  intro j
  have b3 := hB.2.1
  have bl := hB.2.2 v v0 v1
  have we : wr (266 + 44 * v + 3) = 266 + 44 * v + 3 := wr_of (by omega) (by omega)
  have wv : wr v = v := wr_of (by omega) (by omega)
  induction j with
  | zero =>
    intro l x u7 u8 hl l0
    refine ⟨u7, u8, (b_221_41).trans ?_⟩
    have : l = m 247 (266 + 44 * v + 3) := by omega
    subst this
    simp (disch := first | omega | (simp (disch := first | decide | omega) only [um_k, um_e, um_i, uz_k]; omega) | exact cat_i | exact cat_u | exact cat_r | assumption | exact rfl) only [we, wv, hr _ _, itr, wr_of, ↓reduceIte, ck_T, lt_T, lt_F, le_T, le_F, eq_T, eq_F, and_true, true_and, and_false, false_and, or_true, true_or, or_false, false_or, and_self, or_self, not_true_eq_false, not_false_eq_true, implies_true, forall_const, true_implies, false_implies, ri_k, rn_k, rr_k, wr_bi, bi_e0, bi_e1, bi_T, bi_F, Classical.not_not, itp, itn, ck_t]
  | succ j ih =>
    intro l x u7 u8 hl l0
    have w1 : wr (266 + 44 * v + (4 + 4 * l)) = 266 + 44 * v + (4 + 4 * l) := wr_of (by omega) (by omega)
    have w2 : wr (266 + 44 * v + (4 + 4 * l + 1)) = 266 + 44 * v + (4 + 4 * l + 1) := wr_of (by omega) (by omega)
    have wl : wr l = l := wr_of (by omega) (by omega)
    obtain ⟨u7', u8', h1⟩ := ih (l + 1) (rst0 (m 247) w v l x) (.int (iI (m 247 (266 + 44 * v + (4 + 4 * l))))) (.int (iI (m 247 (266 + 44 * v + (4 + 4 * l + 1))))) (by omega) (by omega)
    refine ⟨u7', u8', ?_⟩
    rw [itr, ← h1]
    refine (b_221_41).trans ?_
    unfold rst0 lk ln
    rcases w0 with z | z | z <;> subst z
    · by_cases a : m 247 (266 + 44 * v + (4 + 4 * l)) = 0
      · simp (disch := first | omega | (simp (disch := first | decide | omega) only [um_k, um_e, um_i, uz_k]; omega) | exact cat_i | exact cat_u | exact cat_r | assumption | exact rfl) only [we, wv, wl, w1, w2, hr _ _, a, cif_T, wr_of, ↓reduceIte, ck_T, lt_T, lt_F, le_T, le_F, eq_T, eq_F, and_true, true_and, and_false, false_and, or_true, true_or, or_false, false_or, and_self, or_self, not_true_eq_false, not_false_eq_true, implies_true, forall_const, true_implies, false_implies, ri_k, rn_k, rr_k, wr_bi, bi_e0, bi_e1, bi_T, bi_F, Classical.not_not, itp, itn, ck_t]
      · simp (disch := first | omega | (simp (disch := first | decide | omega) only [um_k, um_e, um_i, uz_k]; omega) | exact cat_i | exact cat_u | exact cat_r | assumption | exact rfl) only [we, wv, wl, w1, w2, hr _ _, a, cif_F, wr_of, ↓reduceIte, ck_T, lt_T, lt_F, le_T, le_F, eq_T, eq_F, and_true, true_and, and_false, false_and, or_true, true_or, or_false, false_or, and_self, or_self, not_true_eq_false, not_false_eq_true, implies_true, forall_const, true_implies, false_implies, ri_k, rn_k, rr_k, wr_bi, bi_e0, bi_e1, bi_T, bi_F, Classical.not_not, itp, itn, ck_t]
    · by_cases a : m 247 (266 + 44 * v + (4 + 4 * l)) = 1
      · simp (disch := first | omega | (simp (disch := first | decide | omega) only [um_k, um_e, um_i, uz_k]; omega) | exact cat_i | exact cat_u | exact cat_r | assumption | exact rfl) only [we, wv, wl, w1, w2, hr _ _, a, cif_T, wr_of, ↓reduceIte, ck_T, lt_T, lt_F, le_T, le_F, eq_T, eq_F, and_true, true_and, and_false, false_and, or_true, true_or, or_false, false_or, and_self, or_self, not_true_eq_false, not_false_eq_true, implies_true, forall_const, true_implies, false_implies, ri_k, rn_k, rr_k, wr_bi, bi_e0, bi_e1, bi_T, bi_F, Classical.not_not, itp, itn, ck_t]
      · by_cases b : m 247 (266 + 44 * v + (4 + 4 * l)) = 2
        · simp (disch := first | omega | (simp (disch := first | decide | omega) only [um_k, um_e, um_i, uz_k]; omega) | exact cat_i | exact cat_u | exact cat_r | assumption | exact rfl) only [we, wv, wl, w1, w2, hr _ _, b, cif_T, wr_of, ↓reduceIte, ck_T, lt_T, lt_F, le_T, le_F, eq_T, eq_F, and_true, true_and, and_false, false_and, or_true, true_or, or_false, false_or, and_self, or_self, not_true_eq_false, not_false_eq_true, implies_true, forall_const, true_implies, false_implies, ri_k, rn_k, rr_k, wr_bi, bi_e0, bi_e1, bi_T, bi_F, Classical.not_not, itp, itn, ck_t]
        · simp (disch := first | omega | (simp (disch := first | decide | omega) only [um_k, um_e, um_i, uz_k]; omega) | exact cat_i | exact cat_u | exact cat_r | assumption | exact rfl) only [we, wv, wl, w1, w2, hr _ _, a, b, cif_F, wr_of, ↓reduceIte, ck_T, lt_T, lt_F, le_T, le_F, eq_T, eq_F, and_true, true_and, and_false, false_and, or_true, true_or, or_false, false_or, and_self, or_self, not_true_eq_false, not_false_eq_true, implies_true, forall_const, true_implies, false_implies, ri_k, rn_k, rr_k, wr_bi, bi_e0, bi_e1, bi_T, bi_F, Classical.not_not, itp, itn, ck_t]
    · by_cases a : m 247 (266 + 44 * v + (4 + 4 * l)) = 3
      · simp (disch := first | omega | (simp (disch := first | decide | omega) only [um_k, um_e, um_i, uz_k]; omega) | exact cat_i | exact cat_u | exact cat_r | assumption | exact rfl) only [we, wv, wl, w1, w2, hr _ _, a, cif_T, wr_of, ↓reduceIte, ck_T, lt_T, lt_F, le_T, le_F, eq_T, eq_F, and_true, true_and, and_false, false_and, or_true, true_or, or_false, false_or, and_self, or_self, not_true_eq_false, not_false_eq_true, implies_true, forall_const, true_implies, false_implies, ri_k, rn_k, rr_k, wr_bi, bi_e0, bi_e1, bi_T, bi_F, Classical.not_not, itp, itn, ck_t]
      · simp (disch := first | omega | (simp (disch := first | decide | omega) only [um_k, um_e, um_i, uz_k]; omega) | exact cat_i | exact cat_u | exact cat_r | assumption | exact rfl) only [we, wv, wl, w1, w2, hr _ _, a, cif_F, wr_of, ↓reduceIte, ck_T, lt_T, lt_F, le_T, le_F, eq_T, eq_F, and_true, true_and, and_false, false_and, or_true, true_or, or_false, false_or, and_self, or_self, not_true_eq_false, not_false_eq_true, implies_true, forall_const, true_implies, false_implies, ri_k, rn_k, rr_k, wr_bi, bi_e0, bi_e1, bi_T, bi_F, Classical.not_not, itp, itn, ck_t]
theorem ruled_ok {h w : Int} (hr : Rng m) (hB : vB (m 247)) (hh : wr h = h) (w0 : w = 0 ∨ w = 1 ∨ w = 2) : Z e (d + 3) 221 0 [.ref 246, .int (iI h), .int (iI w), .retAddr 0, .retAddr 0, .retAddr 0, .retAddr 0, .retAddr 0, .retAddr 0] [] m = ri (lnF (m 247) (m 246 13) h (rst0 (m 247) w) (rs0 w)) m := by
  have outer : ∀ (j : Nat) (c x : Int) (u5 u6 u7 u8 : Value), c + j = 3 → 0 ≤ c → Z e (d + 3) 221 23 [.ref 246, .int (iI h), .int (iI w), .int (iI x), .int (iI c), u5, u6, u7, u8] [] m = ri (itr (fun c y => lnV (m 247) (rst0 (m 247) w) (vOf (m 247) (m 246 13) c h) y) c j x) m := by
    intro j
    induction j with
    | zero =>
      intro c x u5 u6 u7 u8 hc c0
      refine (b_221_23).trans ?_
      simp (disch := first | omega | (simp (disch := first | decide | omega) only [um_k, um_e, um_i, uz_k]; omega) | exact cat_i | exact cat_u | exact cat_r | assumption | exact rfl) only [itr, wr_of, ↓reduceIte, ck_T, lt_T, lt_F, le_T, le_F, eq_T, eq_F, and_true, true_and, and_false, false_and, or_true, true_or, or_false, false_or, and_self, or_self, not_true_eq_false, not_false_eq_true, implies_true, forall_const, true_implies, false_implies, ri_k, rn_k, rr_k, wr_bi, bi_e0, bi_e1, bi_T, bi_F, Classical.not_not, itp, itn, ck_t]
    | succ j ih =>
      intro c x u5 u6 u7 u8 hc c0
      have wc : wr c = c := wr_of (by omega) (by omega)
      have f := M_inForce (e := e) (d := d) (c := c) (h := h) hr ⟨hB.1, hB.2.1⟩ wc hh
      rw [itr]
      rcases vOf_b (N := m 247) (o := m 246 13) (c := c) (h := h) hB.1 with z | z
      · have lv : lnV (m 247) (rst0 (m 247) w) (vOf (m 247) (m 246 13) c h) x = x := cif_f (by rw [z]; decide)
        rw [lv, ← ih (c + 1) x (.int (iI (-1))) (.int (iI 0)) u7 u8 (by omega) (by omega)]
        rw [z] at f
        refine (b_221_23).trans ?_
        simp (disch := first | omega | (simp (disch := first | decide | omega) only [um_k, um_e, um_i, uz_k]; omega) | exact cat_i | exact cat_u | exact cat_r | assumption | exact rfl) only [f, b_221_36, wr_of, ↓reduceIte, ck_T, lt_T, lt_F, le_T, le_F, eq_T, eq_F, and_true, true_and, and_false, false_and, or_true, true_or, or_false, false_or, and_self, or_self, not_true_eq_false, not_false_eq_true, implies_true, forall_const, true_implies, false_implies, ri_k, rn_k, rr_k, wr_bi, bi_e0, bi_e1, bi_T, bi_F, Classical.not_not, itp, itn, ck_t]
        refine (b_221_41).trans ?_
        simp (disch := first | omega | (simp (disch := first | decide | omega) only [um_k, um_e, um_i, uz_k]; omega) | exact cat_i | exact cat_u | exact cat_r | assumption | exact rfl) only [wr_of, ↓reduceIte, ck_T, lt_T, lt_F, le_T, le_F, eq_T, eq_F, and_true, true_and, and_false, false_and, or_true, true_or, or_false, false_or, and_self, or_self, not_true_eq_false, not_false_eq_true, implies_true, forall_const, true_implies, false_implies, ri_k, rn_k, rr_k, wr_bi, bi_e0, bi_e1, bi_T, bi_F, Classical.not_not, itp, itn, ck_t]
      · have lv : lnV (m 247) (rst0 (m 247) w) (vOf (m 247) (m 246 13) c h) x = itr (fun l y => rst0 (m 247) w (vOf (m 247) (m 246 13) c h) l y) 0 (m 247 (266 + 44 * vOf (m 247) (m 246 13) c h + 3)).toNat x := cif_t z.1
        rw [lv]
        obtain ⟨u7', u8', h1⟩ := rul_in (e := e) (d := d) (h := h) (w := w) (c := c) hr hB w0 z.1 z.2.1 (m 247 (266 + 44 * vOf (m 247) (m 246 13) c h + 3)).toNat 0 x u7 u8 (by have := hB.2.2 _ z.1 z.2.1; omega) (by omega)
        rw [← ih (c + 1) _ (.int (iI (vOf (m 247) (m 246 13) c h))) (.int (iI (m 247 (266 + 44 * vOf (m 247) (m 246 13) c h + 3)))) u7' u8' (by omega) (by omega), ← h1]
        refine (b_221_23).trans ?_
        simp (disch := first | omega | (simp (disch := first | decide | omega) only [um_k, um_e, um_i, uz_k]; omega) | exact cat_i | exact cat_u | exact cat_r | assumption | exact rfl) only [f, b_221_36, wc, wr_of, ↓reduceIte, ck_T, lt_T, lt_F, le_T, le_F, eq_T, eq_F, and_true, true_and, and_false, false_and, or_true, true_or, or_false, false_or, and_self, or_self, not_true_eq_false, not_false_eq_true, implies_true, forall_const, true_implies, false_implies, ri_k, rn_k, rr_k, wr_bi, bi_e0, bi_e1, bi_T, bi_F, Classical.not_not, itp, itn, ck_t]
  rw [b_221_0]
  have e1 : (if wr w = 0 then (3 : Int) else (if wr w = 1 then 0 else 40)) = rs0 w := by
    rw [wr_of (by omega) (by omega)]
    rfl
  rw [e1]
  exact outer 3 0 (rs0 w) _ _ _ _ (by decide) (by decide)
theorem ruled_0 {h : Int} (hr : Rng m) (hB : vB (m 247)) (hh : wr h = h) : Z e (d + 3) 221 0 [.ref 246, .int (iI h), .int (iI 0), .retAddr 0, .retAddr 0, .retAddr 0, .retAddr 0, .retAddr 0, .retAddr 0] [] m = ri (mile (m 247) (m 246 13) h) m := ruled_ok hr hB hh (Or.inl rfl)
theorem ruled_1 {h : Int} (hr : Rng m) (hB : vB (m 247)) (hh : wr h = h) : Z e (d + 3) 221 0 [.ref 246, .int (iI h), .int (iI 1), .retAddr 0, .retAddr 0, .retAddr 0, .retAddr 0, .retAddr 0, .retAddr 0] [] m = ri (strt (m 247) (m 246 13) h) m := ruled_ok hr hB hh (Or.inr (Or.inl rfl))
theorem ruled_2 {h : Int} (hr : Rng m) (hB : vB (m 247)) (hh : wr h = h) : Z e (d + 3) 221 0 [.ref 246, .int (iI h), .int (iI 2), .retAddr 0, .retAddr 0, .retAddr 0, .retAddr 0, .retAddr 0, .retAddr 0] [] m = ri (fort (m 247) (m 246 13) h) m := ruled_ok hr hB hh (Or.inr (Or.inr rfl))
/-- the reference's own cells of the law -/
def rfk (k : Nat) : Prop := k = 246 ∨ k = 252 ∨ k = 253 ∨ k = 254 ∨ k = 258 ∨ k = 259
def RM (m0 m : zMm) : Prop := Rng m ∧ (∀ k, ¬ rfk k → m k = m0 k) ∧ (∀ i, ¬ i = 12 → m 246 i = m0 246 i) ∧ (m 246 12 = 0 ∨ (m 246 12 = 1 ∧ RefC m (nw (m0 247))))
theorem RM.n (R : RM m0 m) : m 247 = m0 247 := R.2.1 247 (by unfold rfk; omega)
theorem RefC_iff (hS : sB N) : RefC m (nw N) ↔ ∀ s, 0 ≤ s → s < N 2 → isWay (wall N) (N (254 + 2 * s)) (fun c => if m 254 (100 * s + c) = 1000 then -3 else m 254 (100 * s + c)) ∧ (∀ c, 0 ≤ c → c < 100 → ¬ m 254 (100 * s + c) = -3) := by
  have n2 : nw N 2 = N 2 := if_pos (Or.inl rfl)
  have ns : ∀ s, 0 ≤ s → s < N 2 → nw N (254 + 2 * s) = N (254 + 2 * s) := fun s s0 s1 => if_pos (by have := hS.2.1; omega)
  unfold RefC
  rw [n2]
  constructor
  · intro h s s0 s1
    have hs := hS.2.2 s s0 s1
    have h1 := h s s0 s1
    rw [ns s s0 s1] at h1
    exact ⟨isWay_cg hs.1.1 hs.1.2 (fun c g0 g1 => wall_nw g0 g1) (fun _ _ _ => rfl) h1.1, h1.2⟩
  · intro h s s0 s1
    have hs := hS.2.2 s s0 s1
    have h1 := h s s0 s1
    rw [ns s s0 s1]
    exact ⟨isWay_cg hs.1.1 hs.1.2 (fun c g0 g1 => (wall_nw g0 g1).symm) (fun _ _ _ => rfl) h1.1, h1.2⟩
theorem knowW (hS : sB (m0 247)) (R : RM m0 m) : ∃ m', Z e (d + 4) 210 0 [.ref 246, .retAddr 0, .retAddr 0] [] m = rn m' ∧ RM m0 m' ∧ m' 258 = m 258 ∧ ∀ s, 0 ≤ s → s < m0 247 2 → isWay (wall (m0 247)) (m0 247 (254 + 2 * s)) (fun c => if m' 254 (100 * s + c) = 1000 then -3 else m' 254 (100 * s + c)) ∧ (∀ c, 0 ≤ c → c < 100 → ¬ m' 254 (100 * s + c) = -3) := by
  have f247 := R.n
  obtain ⟨hr, r2, r3, r4⟩ := R
  rcases r4 with z | z
  · obtain ⟨m2, a1, a2, a3, a4⟩ := knowWays_ok (e := e) (d := d) (m := m) hr (by rw [f247]; exact ⟨hS.1, hS.2.1⟩) (by rw [f247]; exact fun s s0 s1 => (hS.2.2 s s0 s1).1) z
    rw [f247] at a2
    refine ⟨_, a1, ⟨a3.um rfl, fun k hk => ?_, fun i hi => ?_, Or.inr ⟨um_s, ?_⟩⟩, by rw [um_r (by decide)]; exact a4 258 (by decide) (by decide) (by decide), ?_⟩
    · unfold rfk at hk
      rw [um_r (by omega), a4 k (by omega) (by omega) (by omega)]
      exact r2 k (by unfold rfk; omega)
    · rw [um_i hi, a4 246 (by decide) (by decide) (by decide)]
      exact r3 i hi
    · refine (RefC_iff hS).mpr ?_
      rw [um_r (by decide)]
      exact a2
    · rw [um_r (by decide)]
      exact a2
  · refine ⟨um m 246 12 1, ?_, ⟨hr.um rfl, fun k hk => by unfold rfk at hk; rw [um_r (by omega)]; exact r2 k (by unfold rfk; omega), fun i hi => by rw [um_i hi]; exact r3 i hi, Or.inr ⟨um_s, ?_⟩⟩, um_r (by decide), ?_⟩
    · rw [b_210_0, b_210_2]
      simp (disch := first | omega | (simp (disch := first | decide | omega) only [um_k, um_e, um_i, uz_k]; omega) | exact cat_i | exact cat_u | exact cat_r | assumption | exact rfl) only [z.1, wr_of, ↓reduceIte, ck_T, lt_T, lt_F, le_T, le_F, eq_T, eq_F, and_true, true_and, and_false, false_and, or_true, true_or, or_false, false_or, and_self, or_self, not_true_eq_false, not_false_eq_true, implies_true, forall_const, true_implies, false_implies, ri_k, rn_k, rr_k, wr_bi, bi_e0, bi_e1, bi_T, bi_F, Classical.not_not, itp, itn, ck_t]
    · refine (RefC_iff hS).mpr ?_
      rw [um_r (by decide)]
      exact (RefC_iff hS).mp z.2
    · rw [um_r (by decide)]
      exact (RefC_iff hS).mp z.2
/-- the mile that is asked -/
def mil (m : zMm) (h mi : Int) : Prop := ((m 246 14 < 0 ∨ ¬ h = m 247 0) ∧ mi = mile (m 247) (m 246 13) h) ∨ (0 ≤ m 246 14 ∧ h = m 247 0 ∧ mi = m 246 14 ∧ mi ≤ 18)
theorem mil_b {F : zMm} {h mi : Int} (hB : vB (m 247)) (iV : cVer F (m 247)) (hm : mil m h mi) : 0 ≤ mi ∧ mi ≤ 999 := by
  rcases hm with z | z
  · rw [z.2]; exact mile_b hB (lB_of iV)
  · omega
theorem withinOf_ok {c h mi : Int} {F : zMm} (hC : Core F (m0 247)) (hr0 : Rng m0) (R : RM m0 m) (hh : wr h = h) (c0 : 0 ≤ c) (c1 : c < 100) (hm : mil m0 h mi) : ∃ m', Z e (d + 5) 223 0 [.ref 246, .int (iI c), .int (iI h), .retAddr 0, .retAddr 0, .retAddr 0, .retAddr 0, .retAddr 0] [] m = ri (abt (m0 247) mi (strt (m0 247) (m0 246 13) h) c) m' ∧ RM m0 m' ∧ m' 258 = m 258 := by
  obtain ⟨iN, iG, iP, iH, iS, iD, iT, iO, iU, iR, iV⟩ := hC
  have hB := vB_of iN iV
  have hS := sB_of iN iS
  have f247 := R.n
  have e13 : m 246 13 = m0 246 13 := R.2.2.1 13 (by decide)
  have e14 : m 246 14 = m0 246 14 := R.2.2.1 14 (by decide)
  have mb := mil_b hB iV hm
  obtain ⟨m1, a1, a2, a258, a3⟩ := knowW (e := e) (d := d) hS R
  have f1 := a2.n
  have s01 := strt_01 (N := m0 247) (o := m0 246 13) (h := h) hB
  have st := ruled_1 (e := e) (d := d + 1) (m := m) (h := h) R.1 (by rw [f247]; exact hB) hh
  rw [f247, e13] at st
  have ab := M_about (e := e) (d := d + 3) (m := m1) (c := c) (mi := mi) (st := strt (m0 247) (m0 246 13) h) (u2 := .int (iI h)) (u7 := .retAddr 0) a2.1 (by rw [f1]; exact ⟨hS.1, hS.2.1⟩) (by rw [f1]; exact fun s s0 s1 => (hS.2.2 s s0 s1).1) (by rw [f1]; exact fun s s0 s1 => (a3 s s0 s1).1) (by rw [f1]; exact fun s s0 s1 => (a3 s s0 s1).2) (by omega) (by omega) s01 c0 c1
  rw [f1] at ab
  have es : (if strt (m0 247) (m0 246 13) h = 1 then (1 : Int) else 0) = strt (m0 247) (m0 246 13) h := by rcases s01 with z | z <;> rw [z] <;> rfl
  have ws : wr (strt (m0 247) (m0 246 13) h) = strt (m0 247) (m0 246 13) h := wr_of (by omega) (by omega)
  refine ⟨m1, ?_, a2, a258⟩
  rw [← ab]
  rcases hm with z | z
  · have mi0 := ruled_0 (e := e) (d := d + 1) (m := m) (h := h) R.1 (by rw [f247]; exact hB) hh
    rw [f247, e13, ← z.2] at mi0
    have hn : ¬ (0 ≤ m0 246 14 ∧ h = m0 247 0) := by omega
    rw [b_223_0]
    simp (disch := first | omega | (simp (disch := first | decide | omega) only [um_k, um_e, um_i, uz_k]; omega) | exact cat_i | exact cat_u | exact cat_r | assumption | exact rfl) only [e14, f247, hr0 _ _, hh, hn, mi0, b_223_30, st, b_223_37, a1, b_223_52, ws, es, wr_of, ↓reduceIte, ck_T, lt_T, lt_F, le_T, le_F, eq_T, eq_F, and_true, true_and, and_false, false_and, or_true, true_or, or_false, false_or, and_self, or_self, not_true_eq_false, not_false_eq_true, implies_true, forall_const, true_implies, false_implies, ri_k, rn_k, rr_k, wr_bi, bi_e0, bi_e1, bi_T, bi_F, Classical.not_not, itp, itn, ck_t]
  · obtain ⟨z1, z2, z3, z4⟩ := z
    rw [b_223_0]
    simp (disch := first | omega | (simp (disch := first | decide | omega) only [um_k, um_e, um_i, uz_k]; omega) | exact cat_i | exact cat_u | exact cat_r | assumption | exact rfl) only [e14, f247, hr0 _ _, hh, ← z2, ← z3, mb.1, b_223_30, st, b_223_37, a1, b_223_52, ws, es, wr_of, ↓reduceIte, ck_T, lt_T, lt_F, le_T, le_F, eq_T, eq_F, and_true, true_and, and_false, false_and, or_true, true_or, or_false, false_or, and_self, or_self, not_true_eq_false, not_false_eq_true, implies_true, forall_const, true_implies, false_implies, ri_k, rn_k, rr_k, wr_bi, bi_e0, bi_e1, bi_T, bi_F, Classical.not_not, itp, itn, ck_t]
theorem M_degree {c h mi : Int} {F : zMm} (hC : Core F (m0 247)) (hr0 : Rng m0) (R : RM m0 m) (hh : wr h = h) (c0 : 0 ≤ c) (c1 : c < 100) (hm : mil m0 h mi) : ∃ m', Z e (d + 6) 225 0 [.ref 246, .int (iI c), .int (iI h), .retAddr 0, .retAddr 0, .retAddr 0] [] m = ri (deg (m0 247) mi (strt (m0 247) (m0 246 13) h) c) m' ∧ RM m0 m' ∧ m' 258 = m 258 := by
  obtain ⟨m1, a1, a2, a258⟩ := withinOf_ok (e := e) (d := d) hC hr0 R hh c0 c1 hm
  obtain ⟨iN, iG, iP, iH, iS, iD, iT, iO, iU, iR, iV⟩ := hC
  have hS := sB_of iN iS
  have f1 := a2.n
  have wc : wr (10 + c) = 10 + c := wr_of (by omega) (by omega)
  generalize hst : strt (m0 247) (m0 246 13) h = st at a1 ⊢
  have hmc := most_cases hS (mi := mi) (st := st) (c := c)
  have key := lpI (F := fun s y => Z e (d + 6) 225 13 [.ref 246, .int (iI c), .int (iI h), .int (iI (abt (m0 247) mi st c)), .int (iI y), .int (iI s)] [] m1) (f := fun s x => cif (wi (m0 247) mi st c s) (max x (m0 247 (254 + 2 * s + 1))) x) (I := fun _ y => 0 ≤ y ∧ y ≤ 9) (n := m0 247 2) (m0 247 2).toNat 0 0 (by have := hS.1; omega) (by decide)
    (by
      intro i y g1 g2 gy
      have q := (hS.2.2 i g1 g2).2
      have h2 := hS.2.1
      have wi1 : wr (254 + 2 * i + 1) = 254 + 2 * i + 1 := wr_of (by omega) (by omega)
      have hbit := abt_bit hS (mi := mi) (st := st) (c := c) g1 (by omega)
      by_cases a : wi (m0 247) mi st c i
      · rw [cif_t a]
        rw [bi_t ⟨g2, a⟩] at hbit
        have wy : wr y = y := wr_of (by omega) (by omega)
        refine ⟨(b_225_13).trans ?_, by omega⟩
        by_cases b : m0 247 (254 + 2 * i + 1) ≤ y
        · rw [show max y (m0 247 (254 + 2 * i + 1)) = y by omega]
          simp (disch := first | omega | (simp (disch := first | decide | omega) only [um_k, um_e, um_i, uz_k]; omega) | exact cat_i | exact cat_u | exact cat_r | assumption | exact rfl) only [f1, hbit, wi1, hr0 _ _, wy, b, wr_of, ↓reduceIte, ck_T, lt_T, lt_F, le_T, le_F, eq_T, eq_F, and_true, true_and, and_false, false_and, or_true, true_or, or_false, false_or, and_self, or_self, not_true_eq_false, not_false_eq_true, implies_true, forall_const, true_implies, false_implies, ri_k, rn_k, rr_k, wr_bi, bi_e0, bi_e1, bi_T, bi_F, Classical.not_not, itp, itn, ck_t]
        · rw [show max y (m0 247 (254 + 2 * i + 1)) = m0 247 (254 + 2 * i + 1) by omega]
          simp (disch := first | omega | (simp (disch := first | decide | omega) only [um_k, um_e, um_i, uz_k]; omega) | exact cat_i | exact cat_u | exact cat_r | assumption | exact rfl) only [f1, hbit, wi1, hr0 _ _, wy, b, wr_of, ↓reduceIte, ck_T, lt_T, lt_F, le_T, le_F, eq_T, eq_F, and_true, true_and, and_false, false_and, or_true, true_or, or_false, false_or, and_self, or_self, not_true_eq_false, not_false_eq_true, implies_true, forall_const, true_implies, false_implies, ri_k, rn_k, rr_k, wr_bi, bi_e0, bi_e1, bi_T, bi_F, Classical.not_not, itp, itn, ck_t]
      · rw [cif_f a]
        rw [bi_f (fun z => a z.2)] at hbit
        refine ⟨(b_225_13).trans ?_, gy⟩
        simp (disch := first | omega | (simp (disch := first | decide | omega) only [um_k, um_e, um_i, uz_k]; omega) | exact cat_i | exact cat_u | exact cat_r | assumption | exact rfl) only [f1, hbit, hr0 _ _, wr_of, ↓reduceIte, ck_T, lt_T, lt_F, le_T, le_F, eq_T, eq_F, and_true, true_and, and_false, false_and, or_true, true_or, or_false, false_or, and_self, or_self, not_true_eq_false, not_false_eq_true, implies_true, forall_const, true_implies, false_implies, ri_k, rn_k, rr_k, wr_bi, bi_e0, bi_e1, bi_T, bi_F, Classical.not_not, itp, itn, ck_t])
  refine ⟨m1, ?_, a2, a258⟩
  have fin : Z e (d + 6) 225 13 [.ref 246, .int (iI c), .int (iI h), .int (iI (abt (m0 247) mi st c)), .int (iI (most (m0 247) mi st c)), .int (iI (m0 247 2))] [] m1 = ri (deg (m0 247) mi st c) m1 := by
    refine (b_225_13).trans ?_
    unfold deg
    by_cases z : most (m0 247) mi st c = 0
    · rw [cif_t z]
      simp (disch := first | omega | (simp (disch := first | decide | omega) only [um_k, um_e, um_i, uz_k]; omega) | exact cat_i | exact cat_u | exact cat_r | assumption | exact rfl) only [b_225_67, f1, hr0 _ _, wc, z, wr_of, ↓reduceIte, ck_T, lt_T, lt_F, le_T, le_F, eq_T, eq_F, and_true, true_and, and_false, false_and, or_true, true_or, or_false, false_or, and_self, or_self, not_true_eq_false, not_false_eq_true, implies_true, forall_const, true_implies, false_implies, ri_k, rn_k, rr_k, wr_bi, bi_e0, bi_e1, bi_T, bi_F, Classical.not_not, itp, itn, ck_t]
    · rw [cif_f z]
      simp (disch := first | omega | (simp (disch := first | decide | omega) only [um_k, um_e, um_i, uz_k]; omega) | exact cat_i | exact cat_u | exact cat_r | assumption | exact rfl) only [b_225_67, f1, hr0 _ _, wc, z, wr_of, ↓reduceIte, ck_T, lt_T, lt_F, le_T, le_F, eq_T, eq_F, and_true, true_and, and_false, false_and, or_true, true_or, or_false, false_or, and_self, or_self, not_true_eq_false, not_false_eq_true, implies_true, forall_const, true_implies, false_implies, ri_k, rn_k, rr_k, wr_bi, bi_e0, bi_e1, bi_T, bi_F, Classical.not_not, itp, itn, ck_t]
  rw [← fin]
  refine Eq.trans ?_ key.1
  rw [b_225_0, a1, ri_k, b_225_6 cat_i]
end MR
