/-! cost. -/
noncomputable def latS (N : Int → Int) (p h : Int) : Int := itr (fun q x => cif (N (794 + 6 * q + 0) = p ∧ N (794 + 6 * q + 3) ≤ h) q x) 0 (N 4).toNat (-1)
def isC (N : Int → Int) (o t g h v l : Int) : Prop := lk N v l = 4 ∧ (N (266 + 44 * v + (4 + 4 * l + 2)) = N (266 + 44 * v + (4 + 4 * l + 3)) ∨ (0 ≤ t ∧ hol N v l (fct N o t g h)))
noncomputable def costS (N : Int → Int) (o t g h : Int) : Int := lnF N o h (fun v l x => cif (isC N o t g h v l) (ln N v l) x) 10
section CO
variable {e : List Int32 × Value} {d : Nat} {m m0 : zMm} {N : Int → Int}
theorem latS_b {p h : Int} (b4 : 0 ≤ N 4) : -1 ≤ latS N p h ∧ latS N p h < N 4 ∧ (0 ≤ latS N p h → N (794 + 6 * latS N p h + 0) = p ∧ N (794 + 6 * latS N p h + 3) ≤ h) := by
  unfold latS
  have : ∀ k : Nat, (k : Int) ≤ N 4 → -1 ≤ itr (fun q x => cif (N (794 + 6 * q + 0) = p ∧ N (794 + 6 * q + 3) ≤ h) q x) 0 k (-1) ∧ itr (fun q x => cif (N (794 + 6 * q + 0) = p ∧ N (794 + 6 * q + 3) ≤ h) q x) 0 k (-1) < k ∧ (0 ≤ itr (fun q x => cif (N (794 + 6 * q + 0) = p ∧ N (794 + 6 * q + 3) ≤ h) q x) 0 k (-1) → N (794 + 6 * itr (fun q x => cif (N (794 + 6 * q + 0) = p ∧ N (794 + 6 * q + 3) ≤ h) q x) 0 k (-1) + 0) = p ∧ N (794 + 6 * itr (fun q x => cif (N (794 + 6 * q + 0) = p ∧ N (794 + 6 * q + 3) ≤ h) q x) 0 k (-1) + 3) ≤ h) := by
    intro k
    induction k with
    | zero =>
      intro _
      show (-1 : Int) ≤ -1 ∧ (-1 : Int) < 0 ∧ _
      exact ⟨by decide, by decide, fun z => absurd z (show ¬ (0 : Int) ≤ -1 by decide)⟩
    | succ k ih =>
      intro hk
      have q := ih (by omega)
      rw [itr_succ, Int.zero_add]
      by_cases hc : N (794 + 6 * (k : Int) + 0) = p ∧ N (794 + 6 * (k : Int) + 3) ≤ h
      · rw [cif_t hc]
        exact ⟨by omega, by omega, fun _ => hc⟩
      · rw [cif_f hc]
        exact ⟨q.1, by omega, q.2.2⟩
  have q := this (N 4).toNat (by omega)
  exact ⟨q.1, by omega, q.2.2⟩
theorem L_latest {p h : Int} (hr : Rng m) (iN : cNum m (m 247)) (iD : cDee m (m 247)) (hp : wr p = p) (hh : wr h = h) : Z e (d + 1) 35 0 [.ref 202, .int (iI p), .int (iI h), .retAddr 0, .retAddr 0] [] m = ri (if latS (m 247) p h < 0 then -3 else latS (m 247) p h) m := by
  have bN := iN
  unfold cNum at bN
  have e8 : m 8 3 = m 247 4 := bN.2.2.2.2.1.1
  have loop : ∀ (k : Nat) (u : Value), (k : Int) ≤ m 247 4 → Z e (d + 1) 35 13 [.ref 202, .int (iI p), .int (iI h), .int (iI ((k : Int) - 1)), u] [] m = ri (if itr (fun q x => cif (m 247 (794 + 6 * q + 0) = p ∧ m 247 (794 + 6 * q + 3) ≤ h) q x) 0 k (-1) < 0 then -3 else itr (fun q x => cif (m 247 (794 + 6 * q + 0) = p ∧ m 247 (794 + 6 * q + 3) ≤ h) q x) 0 k (-1)) m := by
    intro k
    induction k with
    | zero =>
      intro u _
      refine (b_35_13).trans ?_
      rw [itn (by decide)]
      rfl
    | succ k ih =>
      intro u hk
      have df := (iD k (by omega) (by omega)).1
      have i0 := df 0 (by decide) (by decide)
      have i3 := df 3 (by decide) (by decide)
      have t0 := get_8 (e := e) (d := d) (m := m) (i := k) (j := 0) (by omega) (by omega) (by omega) (by omega) (by decide) (by decide)
      have t3 := get_8 (e := e) (d := d) (m := m) (i := k) (j := 3) (by omega) (by omega) (by omega) (by omega) (by decide) (by decide)
      rw [i0] at t0
      rw [i3] at t3
      have ek : ((k + 1 : Nat) : Int) - 1 = k := by omega
      have k0 : (0 : Int) ≤ k := Int.natCast_nonneg k
      have kn : ¬ (k : Int) < 0 := Int.not_lt.mpr k0
      have kl : (k : Int) ≤ m 247 4 := by omega
      rw [itr_succ, Int.zero_add, ek]
      refine (b_35_13).trans ?_
      rw [wr_of (x := (k : Int)) (by omega) (by omega), itp k0, t0, ri_k, b_35_29, hr, hp]
      by_cases c0 : m 247 (794 + 6 * (k : Int) + 0) = p
      · rw [itp c0, t3, ri_k, b_35_57, hr, hh]
        by_cases c3 : m 247 (794 + 6 * (k : Int) + 3) ≤ h
        · rw [itp c3, cif_t ⟨c0, c3⟩, if_neg kn]
        · rw [itn c3, cif_f (fun z => c3 z.2)]
          exact ih _ kl
      · rw [itn c0, cif_f (fun z => c0 z.1)]
        exact ih _ kl
  have q := loop (m 247 4).toNat (.retAddr 0) (by omega)
  rw [Int.toNat_of_nonneg (by omega)] at q
  rw [b_35_0, e8]
  exact q
theorem co_step {p h g t k c L B E : Int} {u1 u6 u7 u8 u9 : Value} (k0 : 0 ≤ k) (k1 : k < 30) (ek : m 203 k = c) (c0 : 0 ≤ c) (c1 : c / 100 < 12) (c2 : c % 100 < 10) (w1 : wr (m (18 + 6 * (c / 100).toNat + 1) (c % 100)) = L) (w3 : wr (m (18 + 6 * (c / 100).toNat + 3) (c % 100)) = B) (w4 : wr (m (18 + 6 * (c / 100).toNat + 4) (c % 100)) = E) : Z e (d + 1) 34 38 [.ref 202, u1, .int (iI h), .int (iI g), .int (iI t), .int (iI k), u6, u7, u8, u9] [] m = if L = 4 then (if B < E then (Z e d 26 0 [.ref 202, .int (iI c), .int (iI t), .int (iI g), .int (iI h), .retAddr 0] [] m).bind (ZK e (d + 1) 34 124 [.ref 202, u1, .int (iI h), .int (iI g), .int (iI t), .int (iI k), .ref (18 + 6 * (c / 100).toNat), .int (iI (c % 100)), .int (iI (if L = 4 then 1 else 0)), u9] [] m) else Z e (d + 1) 34 132 [.ref 202, u1, .int (iI h), .int (iI g), .int (iI t), .int (iI k), .ref (18 + 6 * (c / 100).toNat), .int (iI (c % 100)), .int (iI (if L = 4 then 1 else 0)), u9] [.int (iI 1)] m) else Z e (d + 1) 34 132 [.ref 202, u1, .int (iI h), .int (iI g), .int (iI t), .int (iI k), .ref (18 + 6 * (c / 100).toNat), .int (iI (c % 100)), .int (iI (if L = 4 then 1 else 0)), u9] [.int (iI 0)] m := by
  have q1 : 0 ≤ c / 100 ∧ c / 100 < 12 := by omega
  have q2 : 0 ≤ c % 100 ∧ c % 100 < 10 := by omega
  have jd : jdiv c 100 = c / 100 := jdiv_n c0 (by omega) (by decide) (by decide)
  have jr : jrem c 100 = c % 100 := jrem_n c0 (by omega) (by decide) (by decide)
  have wd : wr (c / 100) = c / 100 := wr_of (by omega) (by omega)
  have wm : wr (c % 100) = c % 100 := wr_of (by omega) (by omega)
  have wk : wr k = k := wr_of (by omega) (by omega)
  refine (b_34_38).trans ?_
  rw [wk, itp k0, ck_t ⟨k0, k1⟩, ek, jd, jr, wd, wm, ck_t q1, ck_t ⟨k0, k1⟩, ck_t q2, w1, w3, w4, ck_t q2, ck_t q2, ck_t ⟨k0, k1⟩]
theorem lnL_len (hB : vB N) {o h : Int} : (lnL N o h).length ≤ 30 := by
  have step : ∀ (c : Int) (y : List Int) (n : Nat), y.length ≤ n → (lnV N (fun v l (y : List Int) => y ++ [100 * v + l]) (vOf N o c h) y).length ≤ n + 10 := by
    intro c y n hy
    unfold lnV
    by_cases hv : 0 ≤ vOf N o c h
    · rw [cif_t hv]
      have hb := hB.2.2 _ hv (vOf_lt hB.1 hv)
      have : ∀ (k : Nat) (j : Int) (z : List Int), (itr (fun l (y : List Int) => y ++ [100 * vOf N o c h + l]) j k z).length = z.length + k := by
        intro k
        induction k with
        | zero => intro j z; rfl
        | succ k ih => intro j z; rw [itr, ih]; simp; omega
      rw [this]
      omega
    · rw [cif_f hv]; omega
  unfold lnL lnF
  rw [show (3 : Nat) = 2 + 1 from rfl, itr, itr, itr, itr]
  exact step _ _ 20 (step _ _ 10 (step _ _ 0 (Nat.le_refl 0)))
theorem X_cost {o h p : Int} (X : LX o h m) (h0 : 0 ≤ h) (h1 : h ≤ 9999) (p0 : 0 ≤ p) (p1 : p < m 247 1) : Z e (d + 4) 34 5 [.ref 202, .int (iI p), .int (iI h), .retAddr 0, .retAddr 0, .retAddr 0, .retAddr 0, .retAddr 0, .retAddr 0, .retAddr 0] [] m = ri (costS (m 247) o (latS (m 247) p h) (deg (m 247) (mile (m 247) o h) (strt (m 247) o h) (m 247 (110 + 9 * p + 0))) h) m := by
  have X0 := X
  obtain ⟨⟨iN, iG, iP, iH, iS, iD, iT, iO, iU, iR, iV⟩, hr, lw, ga⟩ := X
  have bN := iN
  unfold cNum at bN
  have hB := vB_of iN iV
  have hp : wr p = p := wr_of (by omega) (by omega)
  have hh : wr h = h := wr_of (by omega) (by omega)
  have qp := iP p p0 p1
  unfold pRow at qp
  have t0 := get_4 (e := e) (d := d + 3) (m := m) (i := p) (j := 0) (by omega) (by omega) p0 (by omega) (by decide) (by decide)
  rw [qp.1 0 (by decide) (by decide)] at t0
  have dg := X_degree (e := e) (d := d) X0 qp.2.1.1 qp.2.1.2
  have gb := deg_b (sB_of iN iS) (mi := mile (m 247) o h) (st := strt (m 247) o h) (c := m 247 (110 + 9 * p + 0))
  have lt := L_latest (e := e) (d := d + 2) (p := p) (h := h) hr iN iD hp hh
  have lb := latS_b (N := m 247) (p := p) (h := h) (by omega)
  generalize deg (m 247) (mile (m 247) o h) (strt (m 247) o h) (m 247 (110 + 9 * p + 0)) = g at *
  generalize latS (m 247) p h = t at *
  have e1 : costS (m 247) o t g h = (lnL (m 247) o h).foldl (fun y c => cif (isC (m 247) o t g h (c / 100) (c % 100)) (ln (m 247) (c / 100) (c % 100)) y) 10 := by
    unfold costS
    rw [lnF_L hB]
  rw [e1]
  obtain ⟨G1, G2, G3, G4, G5⟩ := ga
  have hlen := lnL_len hB (o := o) (h := h)
  have key := lpDown (A := lnL (m 247) o h) (P := fun c => isC (m 247) o t g h (c / 100) (c % 100)) (val := fun c => ln (m 247) (c / 100) (c % 100)) (G := fun y => ri y m) (F := fun i (u : Value × Value × Value × Value) => Z e (d + 4) 34 38 [.ref 202, .int (iI p), .int (iI h), .int (iI g), .int (iI (if t < 0 then -3 else t)), .int (iI i), u.1, u.2.1, u.2.2.1, u.2.2.2] [] m) 10
    (by
      intro u
      refine (b_34_38).trans ?_
      rw [itn (by decide)])
    (by
      intro k u hk
      have hc := lnL_all hB _ (getD_mem hk)
      have ek : m 203 (k : Int) = (lnL (m 247) o h).getD k 0 := G2 k hk
      generalize (lnL (m 247) o h).getD k 0 = c at *
      have hc0 := hc
      obtain ⟨k0, k1, k2, k3⟩ := hc
      have k30 : (k : Int) < 30 := by omega
      have q12 : c / 100 < 12 := by have := hB.2.1; omega
      have q10 : 0 ≤ c % 100 ∧ c % 100 < 10 := by omega
      have wm : wr (c % 100) = c % 100 := wr_of (by omega) (by omega)
      have hV := zVer_0 (j := c / 100) ⟨by omega, q12⟩
      have lr := lRow_of iV (v := c / 100) (l := c % 100) (by omega) k1 (by omega) k3
      unfold lRow at lr
      obtain ⟨⟨l1, _⟩, ⟨l2, _⟩, _, _, l5⟩ := lr
      have a1 : wr (m (18 + 6 * (c / 100).toNat + 1) (c % 100)) = lk (m 247) (c / 100) (c % 100) := by rw [hr]; exact l1
      have a2 : m (18 + 6 * (c / 100).toNat + 2) (c % 100) = ln (m 247) (c / 100) (c % 100) := l2
      have st : ∀ u6 u7 u8 u9 : Value, Z e (d + 3 + 1) 34 38 [.ref 202, .int (iI p), .int (iI h), .int (iI g), .int (iI (if t < 0 then -3 else t)), .int (iI (k : Int)), u6, u7, u8, u9] [] m = _ := fun u6 u7 u8 u9 => co_step (e := e) (d := d + 3) (m := m) (p := p) (h := h) (g := g) (t := if t < 0 then -3 else t) (u1 := .int (iI p)) (u6 := u6) (u7 := u7) (u8 := u8) (u9 := u9) (Int.natCast_nonneg k) k30 ek k0 q12 k2 a1 (hr _ _) (hr _ _)
      by_cases c4 : lk (m 247) (c / 100) (c % 100) = 4
      · rcases l5 with z | z
        · refine ⟨fun _ => ?_, fun y => absurd ⟨c4, Or.inl z.2⟩ y⟩
          refine (st _ _ _ _).trans ?_
          rw [itp c4, itn (by omega), b_34_132 hV cat_i, itp (by decide), wm, ck_t q10, a2]
        · have nb : ¬ m 247 (266 + 44 * (c / 100) + (4 + 4 * (c % 100) + 2)) = m 247 (266 + 44 * (c / 100) + (4 + 4 * (c % 100) + 3)) := by have := z.2.1; omega
          have hon : Z e (d + 3) 26 0 [.ref 202, .int (iI c), .int (iI (if t < 0 then -3 else t)), .int (iI g), .int (iI h), .retAddr 0] [] m = ri (bi (0 ≤ t ∧ hol (m 247) (c / 100) (c % 100) (fct (m 247) o t g h))) m := by
            by_cases t0 : t < 0
            · rw [if_pos t0, b_26_0, itp (Or.inl (by decide)), bi_f (fun y => by have := y.1; omega)]
            · rw [if_neg t0, L_holdsOn (e := e) (d := d + 2) X0 hc0 (by omega) lb.2.1 (by omega) ⟨h0, h1⟩]
              exact congrArg (fun x => ri x m) (bi_cg ⟨fun y => ⟨by omega, y⟩, fun y => y.2⟩)
          by_cases hl : 0 ≤ t ∧ hol (m 247) (c / 100) (c % 100) (fct (m 247) o t g h)
          · refine ⟨fun _ => ?_, fun y => absurd ⟨c4, Or.inr hl⟩ y⟩
            refine (st _ _ _ _).trans ?_
            rw [itp c4, itp z.1, hon, bi_t hl, ri_k, b_34_124 hV, itp (show ¬ wr 1 = 0 by decide), b_34_132 hV cat_i, itp (by decide), wm, ck_t q10, a2]
          · refine ⟨fun y => ?_, fun _ => ⟨(.ref (18 + 6 * (c / 100).toNat), .int (iI (c % 100)), .int (iI 1), .int (iI 0)), ?_⟩⟩
            · rcases y.2 with w | w
              · exact absurd w nb
              · exact absurd w hl
            · refine (st _ _ _ _).trans ?_
              rw [itp c4, itp z.1, hon, bi_f hl, ri_k, b_34_124 hV, itn (show ¬ ¬ wr 0 = 0 by decide), b_34_132 hV cat_i, itn (by decide), itp c4]
              rfl
      · refine ⟨fun y => absurd y.1 c4, fun _ => ⟨(.ref (18 + 6 * (c / 100).toNat), .int (iI (c % 100)), .int (iI 0), .int (iI 0)), ?_⟩⟩
        refine (st _ _ _ _).trans ?_
        rw [itn c4, b_34_132 hV cat_i, itn (by decide), itn c4]
        rfl)
    (.retAddr 0, .retAddr 0, .retAddr 0, .retAddr 0)
  refine Eq.trans ?_ key
  rw [b_34_5, t0, ri_k, b_34_18, dg, ri_k, b_34_21, lt, ri_k, b_34_28, G1]
theorem M_latest {p h : Int} {u5 u6 u7 u8 u9 : Value} (hr : Rng m) (b4 : 0 ≤ m 247 4 ∧ m 247 4 ≤ 24) (hp : wr p = p) (hh : wr h = h) : Z e (d + 1) 262 5 [.ref 246, .int (iI p), .int (iI h), .int (iI (-1)), .int (iI 0), u5, u6, u7, u8, u9] [] m = Z e (d + 1) 262 59 [.ref 246, .int (iI p), .int (iI h), .int (iI (latS (m 247) p h)), .int (iI (m 247 4)), u5, u6, u7, u8, u9] [] m := by
  have key := lp0 (F := fun i y => Z e (d + 1) 262 5 [.ref 246, .int (iI p), .int (iI h), .int (iI y), .int (iI i), u5, u6, u7, u8, u9] [] m) (f := fun q x => cif (m 247 (794 + 6 * q + 0) = p ∧ m 247 (794 + 6 * q + 3) ≤ h) q x) (n := m 247 4) (x := -1) b4.1
    (by
      intro i y g1 g2
      have y0 : wr (794 + 6 * i + 0) = 794 + 6 * i + 0 := wr_of (by omega) (by omega)
      have y3 : wr (794 + 6 * i + 3) = 794 + 6 * i + 3 := wr_of (by omega) (by omega)
      have z0 : 0 ≤ 794 + 6 * i + 0 ∧ 794 + 6 * i + 0 < 2737 := by omega
      have z3 : 0 ≤ 794 + 6 * i + 3 ∧ 794 + 6 * i + 3 < 2737 := by omega
      refine (b_262_5).trans ?_
      rw [wr_of (x := i) (by omega) (by omega), hr, itp g2, y0, y3, ck_t z0, hr, hr, hp, hh, ck_t (fun _ => z3)]
      by_cases c : m 247 (794 + 6 * i + 0) = p ∧ m 247 (794 + 6 * i + 3) ≤ h
      · rw [itp c, cif_t c]
      · rw [itn c, cif_f c])
  refine key.trans ?_
  refine (b_262_5).trans ?_
  rw [wr_of (x := m 247 4) (by omega) (by omega), itn (by omega)]
  rfl
theorem mc_step {h t x c v l L A B E : Int} {u1 u8 u9 : Value} (v0 : 0 ≤ v) (v1 : v < 12) (l0 : 0 ≤ l) (l1 : l < L) (l2 : l < 10) (wt : wr t = t) (eL : wr (m 247 (266 + 44 * v + 3)) = L) (eA : wr (m 247 (266 + 44 * v + (4 + 4 * l))) = A) (eB : wr (m 247 (266 + 44 * v + (4 + 4 * l + 2))) = B) (eE : wr (m 247 (266 + 44 * v + (4 + 4 * l + 3))) = E) : Z e (d + 1) 262 104 [.ref 246, u1, .int (iI h), .int (iI t), .int (iI x), .int (iI c), .int (iI v), .int (iI l), u8, u9] [] m = if A = 4 then (if ¬ B = E then (if 0 ≤ t then (Z e d 251 0 [.ref 246, .int (iI v), .int (iI l), .retAddr 0, .retAddr 0, .retAddr 0, .retAddr 0, .retAddr 0] [] m).bind (ZK e (d + 1) 262 208 [.ref 246, u1, .int (iI h), .int (iI t), .int (iI x), .int (iI c), .int (iI v), .int (iI l), .int (iI (if B = E then 1 else 0)), u9] [] m) else Z e (d + 1) 262 216 [.ref 246, u1, .int (iI h), .int (iI t), .int (iI x), .int (iI c), .int (iI v), .int (iI l), .int (iI (if B = E then 1 else 0)), u9] [.int (iI 0)] m) else Z e (d + 1) 262 216 [.ref 246, u1, .int (iI h), .int (iI t), .int (iI x), .int (iI c), .int (iI v), .int (iI l), .int (iI (if B = E then 1 else 0)), u9] [.int (iI 1)] m) else Z e (d + 1) 262 216 [.ref 246, u1, .int (iI h), .int (iI t), .int (iI x), .int (iI c), .int (iI v), .int (iI l), .int (iI (if B = E then 1 else 0)), u9] [.int (iI 0)] m := by
  have wv : wr v = v := wr_of (by omega) (by omega)
  have wl : wr l = l := wr_of (by omega) (by omega)
  have w3 : wr (266 + 44 * v + 3) = 266 + 44 * v + 3 := wr_of (by omega) (by omega)
  have wA : wr (266 + 44 * v + (4 + 4 * l)) = 266 + 44 * v + (4 + 4 * l) := wr_of (by omega) (by omega)
  have wB : wr (266 + 44 * v + (4 + 4 * l + 2)) = 266 + 44 * v + (4 + 4 * l + 2) := wr_of (by omega) (by omega)
  have wE : wr (266 + 44 * v + (4 + 4 * l + 3)) = 266 + 44 * v + (4 + 4 * l + 3) := wr_of (by omega) (by omega)
  have q3 : 0 ≤ 266 + 44 * v + 3 ∧ 266 + 44 * v + 3 < 2737 := by omega
  have qA : 0 ≤ 266 + 44 * v + (4 + 4 * l) ∧ 266 + 44 * v + (4 + 4 * l) < 2737 := by omega
  have qB : 0 ≤ 266 + 44 * v + (4 + 4 * l + 2) ∧ 266 + 44 * v + (4 + 4 * l + 2) < 2737 := by omega
  have qE : 0 ≤ 266 + 44 * v + (4 + 4 * l + 3) ∧ 266 + 44 * v + (4 + 4 * l + 3) < 2737 := by omega
  refine (b_262_104).trans ?_
  rw [wv, wl, w3, eL, wA, wB, wE, eA, eB, eE, wt, ck_t (fun _ => q3), itp ⟨v0, l1⟩, ck_t qB, ck_t qE, ck_t qA]
theorem M_cost {p h mi : Int} {F : zMm} (hC : Core F (m0 247)) (hr0 : Rng m0) (R : RM m0 m) (h0 : 0 ≤ h) (h1 : h ≤ 9999) (p0 : 0 ≤ p) (p1 : p < m0 247 1) (hm : mil m0 h mi) : ∃ m', Z e (d + 9) 262 0 [.ref 246, .int (iI p), .int (iI h), .retAddr 0, .retAddr 0, .retAddr 0, .retAddr 0, .retAddr 0, .retAddr 0, .retAddr 0] [] m = ri (costS (m0 247) (m0 246 13) (latS (m0 247) p h) (deg (m0 247) mi (strt (m0 247) (m0 246 13) h) (m0 247 (110 + 9 * p + 0))) h) m' ∧ RM m0 m' := by
  have hC0 := hC
  obtain ⟨iN, iG, iP, iH, iS, iD, iT, iO, iU, iR, iV⟩ := hC
  have bN := iN
  unfold cNum at bN
  have hB := vB_of iN iV
  have hS := sB_of iN iS
  have hp : wr p = p := wr_of (by omega) (by omega)
  have hw : wr h = h := wr_of (by omega) (by omega)
  have qp := iP p p0 p1
  unfold pRow at qp
  have lb := latS_b (N := m0 247) (p := p) (h := h) (by omega)
  have ml := M_latest (e := e) (d := d + 8) (m := m) (p := p) (h := h) (u5 := .retAddr 0) (u6 := .retAddr 0) (u7 := .retAddr 0) (u8 := .retAddr 0) (u9 := .retAddr 0) R.1 (by rw [R.n]; omega) hp hw
  rw [R.n] at ml
  have gb := deg_b hS (mi := mi) (st := strt (m0 247) (m0 246 13) h) (c := m0 247 (110 + 9 * p + 0))
  have wt : wr (latS (m0 247) p h) = latS (m0 247) p h := wr_of (by omega) (by omega)
  have y0 : wr (110 + 9 * p + 0) = 110 + 9 * p + 0 := wr_of (by omega) (by omega)
  have z0 : 0 ≤ 110 + 9 * p + 0 ∧ 110 + 9 * p + 0 < 2737 := by omega
  have ffs : ∃ m1, Z e (d + 9) 262 59 [.ref 246, .int (iI p), .int (iI h), .int (iI (latS (m0 247) p h)), .int (iI (m0 247 4)), .retAddr 0, .retAddr 0, .retAddr 0, .retAddr 0, .retAddr 0] [] m = Z e (d + 9) 262 79 [.ref 246, .int (iI p), .int (iI h), .int (iI (latS (m0 247) p h)), .int (iI (m0 247 4)), .retAddr 0, .retAddr 0, .retAddr 0, .retAddr 0, .retAddr 0] [] m1 ∧ RM m0 m1 ∧ (0 ≤ latS (m0 247) p h → ∀ i, 0 ≤ i → i < 6 → m1 258 i = fct (m0 247) (m0 246 13) (latS (m0 247) p h) (deg (m0 247) mi (strt (m0 247) (m0 246 13) h) (m0 247 (110 + 9 * p + 0))) h i) := by
    by_cases t0 : 0 ≤ latS (m0 247) p h
    · obtain ⟨m1, a1, a2, a3⟩ := findFacts_ok (e := e) (d := d) (q := latS (m0 247) p h) (c := m0 247 (110 + 9 * p + 0)) hC0 hr0 R h0 h1 qp.2.1.1 qp.2.1.2 t0 lb.2.1 hm
      refine ⟨m1, ?_, a2, fun _ => a3⟩
      rw [b_262_59, wt, itp t0, y0, ck_t z0, R.n, a1, rn_k]
    · refine ⟨m, ?_, R, fun z => absurd z t0⟩
      rw [b_262_59, wt, itn t0]
  obtain ⟨m1, a1, a2, a3⟩ := ffs
  generalize deg (m0 247) mi (strt (m0 247) (m0 246 13) h) (m0 247 (110 + 9 * p + 0)) = g at *
  generalize latS (m0 247) p h = t at *
  have inner : ∀ (cc v : Int), 0 ≤ v → v < m0 247 3 → ∀ (j : Nat) (l x : Int) (m2 : zMm) (u8 u9 : Value), l + j = m0 247 (266 + 44 * v + 3) → 0 ≤ l → RM m0 m2 → (0 ≤ t → ∀ i, 0 ≤ i → i < 6 → m2 258 i = fct (m0 247) (m0 246 13) t g h i) → ∃ m' u8' u9', Z e (d + 9) 262 104 [.ref 246, .int (iI p), .int (iI h), .int (iI t), .int (iI x), .int (iI cc), .int (iI v), .int (iI l), u8, u9] [] m2 = Z e (d + 9) 262 86 [.ref 246, .int (iI p), .int (iI h), .int (iI t), .int (iI (itr (fun l x => cif (isC (m0 247) (m0 246 13) t g h v l) (ln (m0 247) v l) x) l j x)), .int (iI (cc + 1)), .int (iI v), .int (iI (m0 247 (266 + 44 * v + 3))), u8', u9'] [] m' ∧ RM m0 m' ∧ (0 ≤ t → ∀ i, 0 ≤ i → i < 6 → m' 258 i = fct (m0 247) (m0 246 13) t g h i) := by
    intro cc v v0 v1 j
    have bl := hB.2.2 v v0 v1
    have b12 := hB.2.1
    induction j with
    | zero =>
      intro l x m2 u8 u9 hl l0 R2 hf
      have hle : l = m0 247 (266 + 44 * v + 3) := by omega
      refine ⟨m2, u8, u9, ?_, R2, hf⟩
      have wv : wr v = v := wr_of (by omega) (by omega)
      have wl : wr l = l := wr_of (by omega) (by omega)
      have w3 : wr (266 + 44 * v + 3) = 266 + 44 * v + 3 := wr_of (by omega) (by omega)
      have q3 : 0 ≤ 266 + 44 * v + 3 ∧ 266 + 44 * v + 3 < 2737 := by omega
      refine (b_262_104).trans ?_
      rw [wv, wl, w3, R2.n, hr0, ck_t (fun _ => q3), itn (fun z => by omega), hle]
      rfl
    | succ j ih =>
      intro l x m2 u8 u9 hl l0 R2 hf
      have st := mc_step (e := e) (d := d + 8) (m := m2) (h := h) (t := t) (x := x) (c := cc) (u1 := .int (iI p)) (u8 := u8) (u9 := u9) (L := m0 247 (266 + 44 * v + 3)) (A := lk (m0 247) v l) (B := m0 247 (266 + 44 * v + (4 + 4 * l + 2))) (E := m0 247 (266 + 44 * v + (4 + 4 * l + 3))) v0 (by omega) l0 (by omega) (by omega) wt (by rw [R2.n, hr0]) (by rw [R2.n, hr0]; rfl) (by rw [R2.n, hr0]) (by rw [R2.n, hr0])
      have w1 : wr (266 + 44 * v + (4 + 4 * l + 1)) = 266 + 44 * v + (4 + 4 * l + 1) := wr_of (by omega) (by omega)
      have q1 : 0 ≤ 266 + 44 * v + (4 + 4 * l + 1) ∧ 266 + 44 * v + (4 + 4 * l + 1) < 2737 := by omega
      have fin : ∀ (P : Prop) (m3 : zMm) (u8 : Value), u8.category = 1 → RM m0 m3 → (0 ≤ t → ∀ i, 0 ≤ i → i < 6 → m3 258 i = fct (m0 247) (m0 246 13) t g h i) → (P ↔ isC (m0 247) (m0 246 13) t g h v l) → ∃ m' u8' u9', Z e (d + 9) 262 216 [.ref 246, .int (iI p), .int (iI h), .int (iI t), .int (iI x), .int (iI cc), .int (iI v), .int (iI l), u8, u9] [.int (iI (bi P))] m3 = Z e (d + 9) 262 86 [.ref 246, .int (iI p), .int (iI h), .int (iI t), .int (iI (itr (fun l x => cif (isC (m0 247) (m0 246 13) t g h v l) (ln (m0 247) v l) x) l (j + 1) x)), .int (iI (cc + 1)), .int (iI v), .int (iI (m0 247 (266 + 44 * v + 3))), u8', u9'] [] m' ∧ RM m0 m' ∧ (0 ≤ t → ∀ i, 0 ≤ i → i < 6 → m' 258 i = fct (m0 247) (m0 246 13) t g h i) := by
        intro P m3 u8 hu R3 hf3 hP
        obtain ⟨m4, u8', u9', k1, k2, k3⟩ := ih (l + 1) (cif (isC (m0 247) (m0 246 13) t g h v l) (ln (m0 247) v l) x) m3 u8 (.int (iI (bi P))) (by omega) (by omega) R3 hf3
        refine ⟨m4, u8', u9', ?_, k2, k3⟩
        rw [itr, ← k1, b_262_216 hu, w1, ck_t (fun _ => q1), R3.n, wr_bi]
        by_cases hp2 : P
        · rw [bi_t hp2, itp (by decide), cif_t (hP.mp hp2)]
          rfl
        · rw [bi_f hp2, itn (by decide), cif_f (fun z => hp2 (hP.mpr z))]
      by_cases c4 : lk (m0 247) v l = 4
      · rw [itp c4] at st
        by_cases be : m0 247 (266 + 44 * v + (4 + 4 * l + 2)) = m0 247 (266 + 44 * v + (4 + 4 * l + 3))
        · rw [itn (fun z => z be), itp be] at st
          obtain ⟨m', u8', u9', k⟩ := fin True m2 (.int (iI 1)) cat_i R2 hf ⟨fun _ => ⟨c4, Or.inl be⟩, fun _ => trivial⟩
          rw [bi_T] at k
          exact ⟨m', u8', u9', st.trans k.1, k.2⟩
        · rw [itp be, itn be] at st
          by_cases t0 : 0 ≤ t
          · obtain ⟨m3, b1, b2, b3⟩ := M_holds (e := e) (d := d + 7) (v := v) (l := l) (f := fct (m0 247) (m0 246 13) t g h) hr0 R2 v0 (by omega) l0 (by omega) (lRow_of iV v0 v1 l0 (by omega)) (hf t0) (fun i i0 i1 => fct_01 i0 i1) (fun i => by
              have dq := iD t t0 lb.2.1
              unfold dRow at dq
              have fb := fct_b hS (by omega : m0 247 4 ≤ 24) (o := m0 246 13) (q := t) (g := g) (h := h) (by omega) ⟨h0, h1⟩ (by omega)
              have := fb i
              omega)
            have e1 : (if ¬ bi (hol (m0 247) v l (fct (m0 247) (m0 246 13) t g h)) = 0 then (1 : Int) else 0) = bi (hol (m0 247) v l (fct (m0 247) (m0 246 13) t g h)) := by
              rcases bi_01 (P := hol (m0 247) v l (fct (m0 247) (m0 246 13) t g h)) with z | z <;> rw [z] <;> rfl
            rw [itp t0, b1, ri_k, b_262_208, wr_bi, e1] at st
            obtain ⟨m', u8', u9', k⟩ := fin (hol (m0 247) v l (fct (m0 247) (m0 246 13) t g h)) m3 (.int (iI 0)) cat_i b2 (fun z => by rw [b3]; exact hf z) ⟨fun z => ⟨c4, Or.inr ⟨t0, z⟩⟩, fun z => by
              rcases z.2 with w | w
              · exact absurd w be
              · exact w.2⟩
            exact ⟨m', u8', u9', st.trans k.1, k.2⟩
          · rw [itn t0] at st
            obtain ⟨m', u8', u9', k⟩ := fin False m2 (.int (iI 0)) cat_i R2 hf ⟨fun z => z.elim, fun z => by
              rcases z.2 with w | w
              · exact absurd w be
              · exact absurd w.1 t0⟩
            rw [bi_F] at k
            exact ⟨m', u8', u9', st.trans k.1, k.2⟩
      · rw [itn c4] at st
        obtain ⟨m', u8', u9', k⟩ := fin False m2 _ cat_i R2 hf ⟨fun z => z.elim, fun z => absurd z.1 c4⟩
        rw [bi_F] at k
        exact ⟨m', u8', u9', st.trans k.1, k.2⟩
  have outer : ∀ (j : Nat) (cc x : Int) (m2 : zMm) (u6 u7 u8 u9 : Value), cc + j = 3 → 0 ≤ cc → RM m0 m2 → (0 ≤ t → ∀ i, 0 ≤ i → i < 6 → m2 258 i = fct (m0 247) (m0 246 13) t g h i) → ∃ m', Z e (d + 9) 262 86 [.ref 246, .int (iI p), .int (iI h), .int (iI t), .int (iI x), .int (iI cc), u6, u7, u8, u9] [] m2 = ri (itr (fun c y => lnV (m0 247) (fun v l x => cif (isC (m0 247) (m0 246 13) t g h v l) (ln (m0 247) v l) x) (vOf (m0 247) (m0 246 13) c h) y) cc j x) m' ∧ RM m0 m' := by
    intro j
    induction j with
    | zero =>
      intro cc x m2 u6 u7 u8 u9 hc c0 R2 hf
      refine ⟨m2, ?_, R2⟩
      refine (b_262_86).trans ?_
      rw [wr_of (by omega) (by omega), itn (by omega)]
      rfl
    | succ j ih =>
      intro cc x m2 u6 u7 u8 u9 hc cc0 R2 hf
      have wc : wr cc = cc := wr_of (by omega) (by omega)
      have f := M_inForce (e := e) (d := d + 6) (m := m2) (c := cc) (h := h) R2.1 (by rw [R2.n]; exact ⟨hB.1, hB.2.1⟩) wc hw
      rw [R2.n, R2.2.2.1 13 (by decide)] at f
      have st : Z e (d + 9) 262 86 [.ref 246, .int (iI p), .int (iI h), .int (iI t), .int (iI x), .int (iI cc), u6, u7, u8, u9] [] m2 = Z e (d + 9) 262 104 [.ref 246, .int (iI p), .int (iI h), .int (iI t), .int (iI x), .int (iI cc), .int (iI (vOf (m0 247) (m0 246 13) cc h)), .int (iI 0), u8, u9] [] m2 := by
        refine (b_262_86).trans ?_
        rw [wc, itp (by omega), f, ri_k, b_262_99]
      rw [itr]
      rcases vOf_b (N := m0 247) (o := m0 246 13) (c := cc) (h := h) hB.1 with z | z
      · have lv : lnV (m0 247) (fun v l x => cif (isC (m0 247) (m0 246 13) t g h v l) (ln (m0 247) v l) x) (vOf (m0 247) (m0 246 13) cc h) x = x := cif_f (by rw [z]; decide)
        rw [lv]
        obtain ⟨m3, k1, k2⟩ := ih (cc + 1) x m2 (.int (iI (-1))) (.int (iI 0)) u8 u9 (by omega) (by omega) R2 hf
        refine ⟨m3, ?_, k2⟩
        rw [st, ← k1, z]
        refine (b_262_104).trans ?_
        rw [ck_t (fun y => absurd y (by decide)), itn (fun y => absurd y.1 (by decide))]
      · have lv : lnV (m0 247) (fun v l x => cif (isC (m0 247) (m0 246 13) t g h v l) (ln (m0 247) v l) x) (vOf (m0 247) (m0 246 13) cc h) x = itr (fun l x => cif (isC (m0 247) (m0 246 13) t g h (vOf (m0 247) (m0 246 13) cc h) l) (ln (m0 247) (vOf (m0 247) (m0 246 13) cc h) l) x) 0 (m0 247 (266 + 44 * vOf (m0 247) (m0 246 13) cc h + 3)).toNat x := cif_t z.1
        rw [lv]
        have bl := hB.2.2 _ z.1 z.2.1
        obtain ⟨m3, u3, u4, k1, k2, k3⟩ := inner cc (vOf (m0 247) (m0 246 13) cc h) z.1 z.2.1 (m0 247 (266 + 44 * vOf (m0 247) (m0 246 13) cc h + 3)).toNat 0 x m2 u8 u9 (by omega) (by omega) R2 hf
        obtain ⟨m4, n1, n2⟩ := ih (cc + 1) _ m3 (.int (iI (vOf (m0 247) (m0 246 13) cc h))) (.int (iI (m0 247 (266 + 44 * vOf (m0 247) (m0 246 13) cc h + 3)))) u3 u4 (by omega) (by omega) k2 k3
        exact ⟨m4, by rw [st, k1]; exact n1, n2⟩
  obtain ⟨m3, k1, k2⟩ := outer 3 0 10 m1 (.retAddr 0) (.retAddr 0) (.retAddr 0) (.retAddr 0) (by decide) (by decide) a2 a3
  refine ⟨m3, ?_, k2⟩
  rw [b_262_0, ml, a1, b_262_79]
  exact k1
theorem call_cost {p h : Int} (hI : Inv m) (hp : wr p = p) (hh : wr h = h) : Both (Z e (d + 6) 158 0 [.ref 0, .int (iI (p)), .int (iI (h))] []) (Z e (d + 10) 263 0 [.ref 246, .int (iI (p)), .int (iI (h))] []) m := by
  obtain ⟨hr, ⟨iN, iG, iP, iH, iS, iD, iT, iO, iU, iR, iV⟩, iK, iL, iF, iB, iA, iW, iX⟩ := id hI
  have bN := iN
  unfold cNum at bN
  by_cases h1 : 0 ≤ p ∧ p < m 247 1 ∧ 0 ≤ h ∧ h ≤ 9999
  · obtain ⟨p0, p1, h0, h9⟩ := h1
    obtain ⟨m1, a1, a2⟩ := asAt_ok (e := e) (d := d) hI hh
    have hI1 := AS_Inv hI a2
    have en := AS_n a2
    have xc := X_cost (e := e) (d := d + 1) (p := p) (AS_LX hI a2) h0 h9 p0 (by rw [en]; exact p1)
    rw [en] at xc
    obtain ⟨m2, b1, b2⟩ := M_cost (e := e) (d := d) (p := p) hI1.2.1 hI1.1 (RM.refl hI1) h0 h9 p0 (by rw [en]; exact p1) (mil_of hI1)
    rw [o_of hI1, en] at b1
    refine ⟨costS (m 247) (-1) (latS (m 247) p h) (deg (m 247) (mile (m 247) (-1) h) (strt (m 247) (-1) h) (m 247 (110 + 9 * p + 0))) h, m1, m2, ?_, ?_, Inv_ref hI1 b2⟩
    · simp (disch := first | omega | (simp (disch := first | decide | omega) only [um_k, um_e, um_i, uz_k]; omega) | exact cat_i | exact cat_u | exact cat_r | assumption | exact rfl) only [b_158_0, b_158_26, b_34_0, hp, hh, hr _ _, a1, xc, wr_of, ↓reduceIte, ck_T, lt_T, lt_F, le_T, le_F, eq_T, eq_F, and_true, true_and, and_false, false_and, or_true, true_or, or_false, false_or, and_self, or_self, not_true_eq_false, not_false_eq_true, implies_true, forall_const, true_implies, false_implies, ri_k, rn_k, rr_k, wr_bi, bi_e0, bi_e1, bi_T, bi_F, Classical.not_not, itp, itn, ck_t]
    · simp (disch := first | omega | (simp (disch := first | decide | omega) only [um_k, um_e, um_i, uz_k]; omega) | exact cat_i | exact cat_u | exact cat_r | assumption | exact rfl) only [b_263_0, b_263_25, hp, hh, en, hr _ _, b1, wr_of, ↓reduceIte, ck_T, lt_T, lt_F, le_T, le_F, eq_T, eq_F, and_true, true_and, and_false, false_and, or_true, true_or, or_false, false_or, and_self, or_self, not_true_eq_false, not_false_eq_true, implies_true, forall_const, true_implies, false_implies, ri_k, rn_k, rr_k, wr_bi, bi_e0, bi_e1, bi_T, bi_F, Classical.not_not, itp, itn, ck_t]
  · refine Both.same hI (-1) ?_ ?_
    · simp (disch := first | omega | (simp (disch := first | decide | omega) only [um_k, um_e, um_i, uz_k]; omega) | exact cat_i | exact cat_u | exact cat_r | assumption | exact rfl) only [b_158_0, hp, hh, hr _ _, wr_of, ↓reduceIte, ck_T, lt_T, lt_F, le_T, le_F, eq_T, eq_F, and_true, true_and, and_false, false_and, or_true, true_or, or_false, false_or, and_self, or_self, not_true_eq_false, not_false_eq_true, implies_true, forall_const, true_implies, false_implies, ri_k, rn_k, rr_k, wr_bi, bi_e0, bi_e1, bi_T, bi_F, Classical.not_not, itp, itn, ck_t]
    · simp (disch := first | omega | (simp (disch := first | decide | omega) only [um_k, um_e, um_i, uz_k]; omega) | exact cat_i | exact cat_u | exact cat_r | assumption | exact rfl) only [b_263_0, hp, hh, hr _ _, wr_of, ↓reduceIte, ck_T, lt_T, lt_F, le_T, le_F, eq_T, eq_F, and_true, true_and, and_false, false_and, or_true, true_or, or_false, false_or, and_self, or_self, not_true_eq_false, not_false_eq_true, implies_true, forall_const, true_implies, false_implies, ri_k, rn_k, rr_k, wr_bi, bi_e0, bi_e1, bi_T, bi_F, Classical.not_not, itp, itn, ck_t]
end CO
