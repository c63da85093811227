/-! The line that tells: the reference. -/
section ML
variable {e : List Int32 × Value} {d : Nat} {m m0 : zMm} {N : Int → Int}
theorem fct_01 {o q g h i : Int} (i0 : 3 ≤ i) (i1 : i < 6) : fct N o q g h i = 0 ∨ fct N o q g h i = 1 := by
  unfold fct
  rw [if_neg (by omega), if_neg (by omega), if_neg (by omega), if_pos (by omega)]
  unfold mrk
  split
  · exact bi_01
  · split <;> exact bi_01
theorem ml_step {h kd x c v l L A B : Int} {u1 u2 u9 : Value} (v0 : 0 ≤ v) (v1 : v < 12) (l0 : 0 ≤ l) (l1 : l < L) (l2 : l < 10) (eL : wr (m 247 (266 + 44 * v + 3)) = L) (eA : wr (m 247 (266 + 44 * v + (4 + 4 * l))) = A) (eB : m 247 (266 + 44 * v + (4 + 4 * l + 1)) = B) : Z e (d + 1) 252 43 [.ref 246, u1, u2, .int (iI h), .int (iI kd), .int (iI x), .int (iI c), .int (iI v), .int (iI l), u9] [] m = if 5 ≤ A ∧ ¬ jand B (jor (jshl 1 kd) 64) = 0 then (Z e d 251 0 [.ref 246, .int (iI v), .int (iI l), .retAddr 0, .retAddr 0, .retAddr 0, .retAddr 0, .retAddr 0] [] m).bind (ZK e (d + 1) 252 133 [.ref 246, u1, u2, .int (iI h), .int (iI kd), .int (iI x), .int (iI c), .int (iI v), .int (iI l), .int (iI (if 5 ≤ A ∧ ¬ jand B (jor (jshl 1 kd) 64) = 0 then 1 else 0))] [] m) else Z e (d + 1) 252 43 [.ref 246, u1, u2, .int (iI h), .int (iI kd), .int (iI x), .int (iI c), .int (iI v), .int (iI (l + 1)), .int (iI (if 5 ≤ A ∧ ¬ jand B (jor (jshl 1 kd) 64) = 0 then 1 else 0))] [] m := by
  have wv : wr v = v := wr_of (by omega) (by omega)
  have wl : wr l = l := wr_of (by omega) (by omega)
  have w3 : wr (266 + 44 * v + 3) = 266 + 44 * v + 3 := wr_of (by omega) (by omega)
  have wA : wr (266 + 44 * v + (4 + 4 * l)) = 266 + 44 * v + (4 + 4 * l) := wr_of (by omega) (by omega)
  have wB : wr (266 + 44 * v + (4 + 4 * l + 1)) = 266 + 44 * v + (4 + 4 * l + 1) := wr_of (by omega) (by omega)
  have q3 : 0 ≤ 266 + 44 * v + 3 ∧ 266 + 44 * v + 3 < 2737 := by omega
  have qA : 0 ≤ 266 + 44 * v + (4 + 4 * l) ∧ 266 + 44 * v + (4 + 4 * l) < 2737 := by omega
  have qB : 0 ≤ 266 + 44 * v + (4 + 4 * l + 1) ∧ 266 + 44 * v + (4 + 4 * l + 1) < 2737 := by omega
  refine (b_252_43).trans ?_
  rw [wv, wl, w3, eL, wA, wB, eA, eB, ck_t (fun _ => q3), itp ⟨v0, l1⟩, ck_t qA, ck_t (fun _ => qB)]
theorem lineOf_ok {q c h mi : Int} {F : zMm} (hC : Core F (m0 247)) (hr0 : Rng m0) (R : RM m0 m) (h0 : 0 ≤ h) (h1 : h ≤ 9999) (c0 : 0 ≤ c) (c1 : c < 100) (q0 : 0 ≤ q) (q1 : q < m0 247 4) (hm : mil m0 h mi) : ∃ m', Z e (d + 9) 252 0 [.ref 246, .int (iI q), .int (iI c), .int (iI h), .retAddr 0, .retAddr 0, .retAddr 0, .retAddr 0, .retAddr 0, .retAddr 0] [] m = ri (lnO (m0 247) (m0 246 13) q (deg (m0 247) mi (strt (m0 247) (m0 246 13) h) c) h) m' ∧ RM m0 m' := by
  obtain ⟨m1, a1, a2, a3⟩ := findFacts_ok (e := e) (d := d) hC hr0 R h0 h1 c0 c1 q0 q1 hm
  obtain ⟨iN, iG, iP, iH, iS, iD, iT, iO, iU, iR, iV⟩ := hC
  have bN := iN
  unfold cNum at bN
  have hB := vB_of iN iV
  have hS := sB_of iN iS
  have hw : wr h = h := wr_of (by omega) (by omega)
  have dq := iD q q0 q1
  unfold dRow at dq
  obtain ⟨df, d0, d1, d2, d3, d4, d5⟩ := dq
  have gb := deg_b hS (mi := mi) (st := strt (m0 247) (m0 246 13) h) (c := c)
  generalize hg : deg (m0 247) mi (strt (m0 247) (m0 246 13) h) c = g at *
  have fb := fct_b hS (by omega : m0 247 4 ≤ 24) (o := m0 246 13) (q := q) (g := g) (h := h) (by omega) ⟨h0, h1⟩ (by omega)
  have fr : ∀ i, -2147483648 ≤ fct (m0 247) (m0 246 13) q g h i ∧ fct (m0 247) (m0 246 13) q g h i < 2147483648 := fun i => by have := fb i; omega
  have inner : ∀ (cc v : Int), 0 ≤ v → v < m0 247 3 → ∀ (j : Nat) (l x : Int) (m2 : zMm) (u9 : Value), l + j = m0 247 (266 + 44 * v + 3) → 0 ≤ l → RM m0 m2 → (∀ i, 0 ≤ i → i < 6 → m2 258 i = fct (m0 247) (m0 246 13) q g h i) → ∃ m' u9', Z e (d + 9) 252 43 [.ref 246, .int (iI q), .int (iI c), .int (iI h), .int (iI (m0 247 (794 + 6 * q + 1))), .int (iI x), .int (iI cc), .int (iI v), .int (iI l), u9] [] m2 = Z e (d + 9) 252 25 [.ref 246, .int (iI q), .int (iI c), .int (iI h), .int (iI (m0 247 (794 + 6 * q + 1))), .int (iI (itr (fun l x => cif (tells (m0 247) (m0 246 13) q g h v l) (100 * v + l) x) l j x)), .int (iI (cc + 1)), .int (iI v), .int (iI (m0 247 (266 + 44 * v + 3))), u9'] [] m' ∧ RM m0 m' ∧ m' 258 = m2 258 := by
    intro cc v v0 v1 j
    have bl := hB.2.2 v v0 v1
    have b12 := hB.2.1
    induction j with
    | zero =>
      intro l x m2 u9 hl l0 R2 hf
      have hle : l = m0 247 (266 + 44 * v + 3) := by omega
      refine ⟨m2, u9, ?_, R2, rfl⟩
      have wv : wr v = v := wr_of (by omega) (by omega)
      have wl : wr l = l := wr_of (by omega) (by omega)
      have w3 : wr (266 + 44 * v + 3) = 266 + 44 * v + 3 := wr_of (by omega) (by omega)
      have q3 : 0 ≤ 266 + 44 * v + 3 ∧ 266 + 44 * v + 3 < 2737 := by omega
      refine (b_252_43).trans ?_
      rw [wv, wl, w3, R2.n, hr0, ck_t (fun _ => q3), itn (fun z => by omega), hle]
      rfl
    | succ j ih =>
      intro l x m2 u9 hl l0 R2 hf
      have st := ml_step (e := e) (d := d + 8) (m := m2) (h := h) (kd := m0 247 (794 + 6 * q + 1)) (x := x) (c := cc) (u1 := .int (iI q)) (u2 := .int (iI c)) (u9 := u9) (L := m0 247 (266 + 44 * v + 3)) (A := lk (m0 247) v l) (B := ln (m0 247) v l) v0 (by omega) l0 (by omega) (by omega) (by rw [R2.n, hr0]) (by rw [R2.n, hr0]; rfl) (by rw [R2.n]; rfl)
      by_cases ab : 5 ≤ lk (m0 247) v l ∧ ¬ jand (ln (m0 247) v l) (jor (jshl 1 (m0 247 (794 + 6 * q + 1))) 64) = 0
      · obtain ⟨m3, b1, b2, b3⟩ := M_holds (e := e) (d := d + 7) (v := v) (l := l) (f := fct (m0 247) (m0 246 13) q g h) hr0 R2 v0 (by omega) l0 (by omega) (lRow_of iV v0 v1 l0 (by omega)) hf (fun i i0 i1 => fct_01 i0 i1) fr
        have ti : tells (m0 247) (m0 246 13) q g h v l ↔ hol (m0 247) v l (fct (m0 247) (m0 246 13) q g h) := ⟨fun z => z.2, fun z => ⟨ab, z⟩⟩
        obtain ⟨m4, u4, k1, k2, k3⟩ := ih (l + 1) (cif (tells (m0 247) (m0 246 13) q g h v l) (100 * v + l) x) m3 (.int (iI 1)) (by omega) (by omega) b2 (by rw [b3]; exact hf)
        refine ⟨m4, u4, ?_, k2, by rw [k3, b3]⟩
        rw [itr, ← k1]
        refine st.trans ?_
        rw [itp ab, itp ab, b1, ri_k, b_252_133, wr_bi]
        by_cases hl2 : hol (m0 247) v l (fct (m0 247) (m0 246 13) q g h)
        · rw [bi_t hl2, itp (by decide), cif_t (ti.mpr hl2)]
        · rw [bi_f hl2, itn (by decide), cif_f (fun z => hl2 (ti.mp z))]
      · obtain ⟨m4, u4, k1, k2, k3⟩ := ih (l + 1) (cif (tells (m0 247) (m0 246 13) q g h v l) (100 * v + l) x) m2 (.int (iI 0)) (by omega) (by omega) R2 hf
        refine ⟨m4, u4, ?_, k2, k3⟩
        rw [itr, ← k1]
        refine st.trans ?_
        rw [itn ab, itn ab, cif_f (fun z => ab z.1)]
  have outer : ∀ (j : Nat) (cc x : Int) (m2 : zMm) (u7 u8 u9 : Value), cc + j = 3 → 0 ≤ cc → RM m0 m2 → (∀ i, 0 ≤ i → i < 6 → m2 258 i = fct (m0 247) (m0 246 13) q g h i) → ∃ m', Z e (d + 9) 252 25 [.ref 246, .int (iI q), .int (iI c), .int (iI h), .int (iI (m0 247 (794 + 6 * q + 1))), .int (iI x), .int (iI cc), u7, u8, u9] [] m2 = ri (itr (fun c y => lnV (m0 247) (fun v l x => cif (tells (m0 247) (m0 246 13) q g h v l) (100 * v + l) x) (vOf (m0 247) (m0 246 13) c h) y) cc j x) m' ∧ RM m0 m' := by
    intro j
    induction j with
    | zero =>
      intro cc x m2 u7 u8 u9 hc c0 R2 hf
      refine ⟨m2, ?_, R2⟩
      refine (b_252_25).trans ?_
      rw [wr_of (by omega) (by omega), itn (by omega)]
      rfl
    | succ j ih =>
      intro cc x m2 u7 u8 u9 hc cc0 R2 hf
      have wc : wr cc = cc := wr_of (by omega) (by omega)
      have f := M_inForce (e := e) (d := d + 6) (m := m2) (c := cc) (h := h) R2.1 (by rw [R2.n]; exact ⟨hB.1, hB.2.1⟩) wc hw
      rw [R2.n, R2.2.2.1 13 (by decide)] at f
      have st : Z e (d + 9) 252 25 [.ref 246, .int (iI q), .int (iI c), .int (iI h), .int (iI (m0 247 (794 + 6 * q + 1))), .int (iI x), .int (iI cc), u7, u8, u9] [] m2 = Z e (d + 9) 252 43 [.ref 246, .int (iI q), .int (iI c), .int (iI h), .int (iI (m0 247 (794 + 6 * q + 1))), .int (iI x), .int (iI cc), .int (iI (vOf (m0 247) (m0 246 13) cc h)), .int (iI 0), u9] [] m2 := by
        refine (b_252_25).trans ?_
        rw [wc, itp (by omega), f, ri_k, b_252_38]
      rw [itr]
      rcases vOf_b (N := m0 247) (o := m0 246 13) (c := cc) (h := h) hB.1 with z | z
      · have lv : lnV (m0 247) (fun v l x => cif (tells (m0 247) (m0 246 13) q g h v l) (100 * v + l) x) (vOf (m0 247) (m0 246 13) cc h) x = x := cif_f (by rw [z]; decide)
        rw [lv]
        obtain ⟨m3, k1, k2⟩ := ih (cc + 1) x m2 (.int (iI (-1))) (.int (iI 0)) u9 (by omega) (by omega) R2 hf
        refine ⟨m3, ?_, k2⟩
        rw [st, ← k1, z]
        refine (b_252_43).trans ?_
        rw [ck_t (fun y => absurd y (by decide)), itn (fun y => absurd y.1 (by decide))]
      · have lv : lnV (m0 247) (fun v l x => cif (tells (m0 247) (m0 246 13) q g h v l) (100 * v + l) x) (vOf (m0 247) (m0 246 13) cc h) x = itr (fun l x => cif (tells (m0 247) (m0 246 13) q g h (vOf (m0 247) (m0 246 13) cc h) l) (100 * vOf (m0 247) (m0 246 13) cc h + l) x) 0 (m0 247 (266 + 44 * vOf (m0 247) (m0 246 13) cc h + 3)).toNat x := cif_t z.1
        rw [lv]
        have bl := hB.2.2 _ z.1 z.2.1
        obtain ⟨m3, u3, k1, k2, k3⟩ := inner cc (vOf (m0 247) (m0 246 13) cc h) z.1 z.2.1 (m0 247 (266 + 44 * vOf (m0 247) (m0 246 13) cc h + 3)).toNat 0 x m2 u9 (by omega) (by omega) R2 hf
        obtain ⟨m4, n1, n2⟩ := ih (cc + 1) _ m3 (.int (iI (vOf (m0 247) (m0 246 13) cc h))) (.int (iI (m0 247 (266 + 44 * vOf (m0 247) (m0 246 13) cc h + 3)))) u3 (by omega) (by omega) k2 (by rw [k3]; exact hf)
        exact ⟨m4, by rw [st, k1]; exact n1, n2⟩
  obtain ⟨m3, k1, k2⟩ := outer 3 0 (-1) m1 (.retAddr 0) (.retAddr 0) (.retAddr 0) (by decide) (by decide) a2 a3
  refine ⟨m3, ?_, k2⟩
  have y1 : wr (794 + 6 * q + 1) = 794 + 6 * q + 1 := wr_of (by omega) (by omega)
  have q1' : 0 ≤ 794 + 6 * q + 1 ∧ 794 + 6 * q + 1 < 2737 := by omega
  rw [b_252_0, a1, rn_k, b_252_7, y1, ck_t q1', a2.n]
  exact k1
theorem tells_56 {o q g h v l : Int} (hl : 0 ≤ lk N v l ∧ lk N v l ≤ 6) (t : tells N o q g h v l) : lk N v l = 5 ∨ lk N v l = 6 := by
  have := t.1.1
  omega
theorem doesCount_ok {q c h mi : Int} {F : zMm} (hC : Core F (m0 247)) (hr0 : Rng m0) (R : RM m0 m) (h0 : 0 ≤ h) (h1 : h ≤ 9999) (c0 : 0 ≤ c) (c1 : c < 100) (q0 : 0 ≤ q) (q1 : q < m0 247 4) (hm : mil m0 h mi) : ∃ m', Z e (d + 10) 253 0 [.ref 246, .int (iI q), .int (iI c), .int (iI h), .retAddr 0] [] m = ri (bi (¬ fails (m0 247) (m0 246 13) q (deg (m0 247) mi (strt (m0 247) (m0 246 13) h) c) h)) m' ∧ RM m0 m' := by
  obtain ⟨m1, a1, a2⟩ := lineOf_ok (e := e) (d := d) hC hr0 R h0 h1 c0 c1 q0 q1 hm
  obtain ⟨iN, iG, iP, iH, iS, iD, iT, iO, iU, iR, iV⟩ := hC
  have hB := vB_of iN iV
  generalize deg (m0 247) mi (strt (m0 247) (m0 246 13) h) c = g at *
  refine ⟨m1, ?_, a2⟩
  rw [b_253_0, a1, ri_k, b_253_7 cat_i]
  rcases lnO_cases hB (o := m0 246 13) (q := q) (g := g) (h := h) with ⟨_, k1, k2⟩ | ⟨k1, k3, k2⟩
  · rw [k1, ck_t (fun z => absurd (by decide) z), itp (Or.inl (by decide)), bi_t (fun z => by have := z.1; omega)]
  · obtain ⟨g0, g1, g2, g3⟩ := k1
    have b12 := hB.2.1
    have lr := lRow_of iV (v := lnO (m0 247) (m0 246 13) q g h / 100) (l := lnO (m0 247) (m0 246 13) q g h % 100) (by omega) g1 (by omega) g3
    unfold lRow at lr
    have t5 := tells_56 (lr.1.2) k3
    have efl : fails (m0 247) (m0 246 13) q g h ↔ lk (m0 247) (lnO (m0 247) (m0 246 13) q g h / 100) (lnO (m0 247) (m0 246 13) q g h % 100) = 6 := ⟨fun z => z.2, fun z => ⟨g0, z⟩⟩
    have jd : jdiv (lnO (m0 247) (m0 246 13) q g h) 100 = lnO (m0 247) (m0 246 13) q g h / 100 := jdiv_n g0 (by omega) (by decide) (by decide)
    have jr : jrem (lnO (m0 247) (m0 246 13) q g h) 100 = lnO (m0 247) (m0 246 13) q g h % 100 := jrem_n g0 (by omega) (by decide) (by decide)
    have wc : wr (lnO (m0 247) (m0 246 13) q g h) = lnO (m0 247) (m0 246 13) q g h := wr_of (by omega) (by omega)
    have wx : wr (266 + 44 * (lnO (m0 247) (m0 246 13) q g h / 100) + (4 + 4 * (lnO (m0 247) (m0 246 13) q g h % 100))) = 266 + 44 * (lnO (m0 247) (m0 246 13) q g h / 100) + (4 + 4 * (lnO (m0 247) (m0 246 13) q g h % 100)) := wr_of (by omega) (by omega)
    have qx : 0 ≤ 266 + 44 * (lnO (m0 247) (m0 246 13) q g h / 100) + (4 + 4 * (lnO (m0 247) (m0 246 13) q g h % 100)) ∧ 266 + 44 * (lnO (m0 247) (m0 246 13) q g h / 100) + (4 + 4 * (lnO (m0 247) (m0 246 13) q g h % 100)) < 2737 := by omega
    have el : m0 247 (266 + 44 * (lnO (m0 247) (m0 246 13) q g h / 100) + (4 + 4 * (lnO (m0 247) (m0 246 13) q g h % 100))) = lk (m0 247) (lnO (m0 247) (m0 246 13) q g h / 100) (lnO (m0 247) (m0 246 13) q g h % 100) := rfl
    have wl : wr (lk (m0 247) (lnO (m0 247) (m0 246 13) q g h / 100) (lnO (m0 247) (m0 246 13) q g h % 100)) = lk (m0 247) (lnO (m0 247) (m0 246 13) q g h / 100) (lnO (m0 247) (m0 246 13) q g h % 100) := hr0 _ _
    rw [wc, jd, jr, wx, ck_t (fun _ => qx), a2.n, el, wl]
    rcases t5 with z | z
    · rw [itp (Or.inr z), bi_t (fun y => by have := efl.mp y; omega)]
    · rw [itn (fun y => by omega), bi_f (fun y => y (efl.mpr z))]
theorem whyNot_ok {p c h k mi : Int} {F : zMm} (hC : Core F (m0 247)) (hr0 : Rng m0) (R : RM m0 m) (hp : wr p = p) (hk : wr k = k) (h0 : 0 ≤ h) (h1 : h ≤ 9999) (c0 : 0 ≤ c) (c1 : c < 100) (hm : mil m0 h mi) : ∃ m', Z e (d + 11) 257 0 [.ref 246, .int (iI p), .int (iI c), .int (iI h), .int (iI k), .retAddr 0, .retAddr 0] [] m = ri (whyS (m0 247) (m0 246 13) p (deg (m0 247) mi (strt (m0 247) (m0 246 13) h) c) h k) m' ∧ RM m0 m' := by
  have hC0 := hC
  obtain ⟨iN, iG, iP, iH, iS, iD, iT, iO, iU, iR, iV⟩ := hC
  have bN := iN
  unfold cNum at bN
  have hS := sB_of iN iS
  have hw : wr h = h := wr_of (by omega) (by omega)
  have gb := deg_b hS (mi := mi) (st := strt (m0 247) (m0 246 13) h) (c := c)
  have w4 : wr (m0 247 4) = m0 247 4 := hr0 _ _
  have loop : ∀ (j : Nat) (i : Int) (m2 : zMm) (u6 : Value), i + j = m0 247 4 → 0 ≤ i → RM m0 m2 → (∀ i', 0 ≤ i' → i' < i → ¬ fls (m0 247) (m0 246 13) p (deg (m0 247) mi (strt (m0 247) (m0 246 13) h) c) h k i') → ∃ m', Z e (d + 11) 257 3 [.ref 246, .int (iI p), .int (iI c), .int (iI h), .int (iI k), .int (iI i), u6] [] m2 = ri (whyS (m0 247) (m0 246 13) p (deg (m0 247) mi (strt (m0 247) (m0 246 13) h) c) h k) m' ∧ RM m0 m' := by
    intro j
    induction j with
    | zero =>
      intro i m2 u6 hi i0 R2 hn
      have hf : ff (m0 247) (m0 246 13) p (deg (m0 247) mi (strt (m0 247) (m0 246 13) h) c) h k = -3 := fst1_none (fun i' a b => hn i' a (by omega))
      obtain ⟨m3, a1, a2, a3⟩ := M_degree (e := e) (d := d + 4) hC0 hr0 R2 hw c0 c1 hm
      refine ⟨m3, ?_, a2⟩
      refine (b_257_3).trans ?_
      unfold whyS
      rw [hf]
      generalize deg (m0 247) mi (strt (m0 247) (m0 246 13) h) c = g at *
      rw [wr_of (x := i) (by omega) (by omega), R2.n, w4, itn (by omega), a1, ri_k, b_257_98, wr_of (x := g) (by omega) (by omega), if_neg (show ¬ ¬ (-3 : Int) = -3 from fun z => z rfl)]
    | succ j ih =>
      intro i m2 u6 hi i0 R2 hn
      have wi : wr i = i := wr_of (by omega) (by omega)
      have y0 : wr (794 + 6 * i + 0) = 794 + 6 * i + 0 := wr_of (by omega) (by omega)
      have y3 : wr (794 + 6 * i + 3) = 794 + 6 * i + 3 := wr_of (by omega) (by omega)
      have y5 : wr (794 + 6 * i + 5) = 794 + 6 * i + 5 := wr_of (by omega) (by omega)
      have z0 : 0 ≤ 794 + 6 * i + 0 ∧ 794 + 6 * i + 0 < 2737 := by omega
      have z3 : 0 ≤ 794 + 6 * i + 3 ∧ 794 + 6 * i + 3 < 2737 := by omega
      have z5 : 0 ≤ 794 + 6 * i + 5 ∧ 794 + 6 * i + 5 < 2737 := by omega
      have w0 := hr0 247 (794 + 6 * i + 0)
      have w3 := hr0 247 (794 + 6 * i + 3)
      have w5 := hr0 247 (794 + 6 * i + 5)
      have st : Z e (d + 11) 257 3 [.ref 246, .int (iI p), .int (iI c), .int (iI h), .int (iI k), .int (iI i), u6] [] m2 = _ := b_257_3
      rw [wi, R2.n, w4, itp (by omega), y0, y3, y5, ck_t z0, w0, w3, w5, hp, hw, hk, ck_t (fun _ => ⟨z3, fun _ => z5⟩)] at st
      by_cases as : m0 247 (794 + 6 * i + 0) = p ∧ m0 247 (794 + 6 * i + 3) ≤ h ∧ m0 247 (794 + 6 * i + 5) ≤ k
      · obtain ⟨m3, a1, a2⟩ := doesCount_ok (e := e) (d := d) hC0 hr0 R2 h0 h1 c0 c1 i0 (by omega) hm
        rw [itp as, itp as, a1, ri_k, b_257_80, wr_bi] at st
        by_cases hf : fails (m0 247) (m0 246 13) i (deg (m0 247) mi (strt (m0 247) (m0 246 13) h) c) h
        · have hff : ff (m0 247) (m0 246 13) p (deg (m0 247) mi (strt (m0 247) (m0 246 13) h) c) h k = i := fst1_some i0 (by omega) ⟨as, hf⟩ hn
          rw [bi_f (fun z => z hf), itp rfl] at st
          refine ⟨m3, ?_, a2⟩
          unfold whyS
          rw [hff, if_pos (by omega)]
          exact st
        · rw [bi_t hf, itn (by decide)] at st
          obtain ⟨m4, b1, b2⟩ := ih (i + 1) m3 (.int (iI 1)) (by omega) (by omega) a2 (fun i' a b => by
            by_cases z : i' = i
            · rw [z]; exact fun y => hf y.2
            · exact hn i' a (by omega))
          exact ⟨m4, st.trans b1, b2⟩
      · rw [itn as, itn as] at st
        obtain ⟨m4, b1, b2⟩ := ih (i + 1) m2 (.int (iI 0)) (by omega) (by omega) R2 (fun i' a b => by
          by_cases z : i' = i
          · rw [z]; exact fun y => as y.1
          · exact hn i' a (by omega))
        exact ⟨m4, st.trans b1, b2⟩
  rw [b_257_0]
  exact loop (m0 247 4).toNat 0 m _ (by omega) (by omega) R (fun i' a b => by omega)
end ML
