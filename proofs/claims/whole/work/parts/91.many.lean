/-! How many; who is safe now. -/
section MY
variable {e : List Int32 × Value} {d : Nat} {m m0 : zMm} {N : Int → Int}
theorem bit_m {x i : Int} (h0 : 0 ≤ x) (h1 : x < 2147483648) (h2 : 0 ≤ i) (h3 : i < 31) : jand (jshr x i) 1 = x / 2 ^ i.toNat % 2 := by
  have hp : (0 : Int) < 2 ^ i.toNat := Int.pow_pos (by decide)
  have hd : 0 ≤ x / 2 ^ i.toNat := Int.ediv_nonneg h0 (by omega)
  have hl : x / 2 ^ i.toNat ≤ x := Int.ediv_le_self _ h0
  rw [jshr_n h2 (by omega), wr_of (by omega) (by omega), jand_n hd (by omega) (by decide) (by decide)]
  generalize x / 2 ^ i.toNat = y at *
  rw [show (1 : Int).toNat = 1 from rfl, Nat.and_one_is_mod]
  omega
theorem bc_pop {n : Nat} (hn : n < 65536) : bc (n : Int) = ((pop8 (n / 256) + pop8 (n % 256) : Nat) : Int) := by
  have b : ∀ i : Fin 16, jand (jshr (n : Int) (i.val : Int)) 1 = (n : Int) / 2 ^ i.val % 2 := fun i => by
    have := bit_m (x := (n : Int)) (i := (i.val : Int)) (by omega) (by omega) (by omega) (by omega)
    rw [this, Int.toNat_natCast]
  have b0 := b 0
  have b1 := b 1
  have b2 := b 2
  have b3 := b 3
  have b4 := b 4
  have b5 := b 5
  have b6 := b 6
  have b7 := b 7
  have b8 := b 8
  have b9 := b 9
  have b10 := b 10
  have b11 := b 11
  have b12 := b 12
  have b13 := b 13
  have b14 := b 14
  have b15 := b 15
  clear b
  have e : bc (n : Int) = 0 + jand (jshr (n : Int) 0) 1 + jand (jshr (n : Int) 1) 1 + jand (jshr (n : Int) 2) 1 + jand (jshr (n : Int) 3) 1 + jand (jshr (n : Int) 4) 1 + jand (jshr (n : Int) 5) 1 + jand (jshr (n : Int) 6) 1 + jand (jshr (n : Int) 7) 1 + jand (jshr (n : Int) 8) 1 + jand (jshr (n : Int) 9) 1 + jand (jshr (n : Int) 10) 1 + jand (jshr (n : Int) 11) 1 + jand (jshr (n : Int) 12) 1 + jand (jshr (n : Int) 13) 1 + jand (jshr (n : Int) 14) 1 + jand (jshr (n : Int) 15) 1 := rfl
  have c0 : jand (jshr (n : Int) 0) 1 = (n : Int) / 1 % 2 := b0
  have c1 : jand (jshr (n : Int) 1) 1 = (n : Int) / 2 % 2 := b1
  have c2 : jand (jshr (n : Int) 2) 1 = (n : Int) / 4 % 2 := b2
  have c3 : jand (jshr (n : Int) 3) 1 = (n : Int) / 8 % 2 := b3
  have c4 : jand (jshr (n : Int) 4) 1 = (n : Int) / 16 % 2 := b4
  have c5 : jand (jshr (n : Int) 5) 1 = (n : Int) / 32 % 2 := b5
  have c6 : jand (jshr (n : Int) 6) 1 = (n : Int) / 64 % 2 := b6
  have c7 : jand (jshr (n : Int) 7) 1 = (n : Int) / 128 % 2 := b7
  have c8 : jand (jshr (n : Int) 8) 1 = (n : Int) / 256 % 2 := b8
  have c9 : jand (jshr (n : Int) 9) 1 = (n : Int) / 512 % 2 := b9
  have c10 : jand (jshr (n : Int) 10) 1 = (n : Int) / 1024 % 2 := b10
  have c11 : jand (jshr (n : Int) 11) 1 = (n : Int) / 2048 % 2 := b11
  have c12 : jand (jshr (n : Int) 12) 1 = (n : Int) / 4096 % 2 := b12
  have c13 : jand (jshr (n : Int) 13) 1 = (n : Int) / 8192 % 2 := b13
  have c14 : jand (jshr (n : Int) 14) 1 = (n : Int) / 16384 % 2 := b14
  have c15 : jand (jshr (n : Int) 15) 1 = (n : Int) / 32768 % 2 := b15
  rw [e, c0, c1, c2, c3, c4, c5, c6, c7, c8, c9, c10, c11, c12, c13, c14, c15]
  clear b0 b1 b2 b3 b4 b5 b6 b7 b8 b9 b10 b11 b12 b13 b14 b15 c0 c1 c2 c3 c4 c5 c6 c7 c8 c9 c10 c11 c12 c13 c14 c15 e
  unfold pop8
  omega
theorem bitCount16 {x : Int} (h0 : 0 ≤ x) (h1 : x < 65536) : Z e d 321 0 [.int (iI x)] [] m = ri (bc x) m := by
  refine (b_321_0).trans (congrArg (fun z => ri z m) ?_)
  obtain ⟨n, rfl⟩ : ∃ n : Nat, x = (n : Int) := ⟨x.toNat, by omega⟩
  have hn : n < 65536 := by omega
  obtain ⟨n1, e1⟩ : ∃ n1, n1 = n - ((n >>> 1) &&& 1431655765) := ⟨_, rfl⟩
  obtain ⟨n2, e2⟩ : ∃ n2, n2 = (n1 &&& 858993459) + ((n1 >>> 2) &&& 858993459) := ⟨_, rfl⟩
  obtain ⟨n3, e3⟩ : ∃ n3, n3 = (n2 + (n2 >>> 4)) &&& 252645135 := ⟨_, rfl⟩
  obtain ⟨n4, e4⟩ : ∃ n4, n4 = n3 + (n3 >>> 8) := ⟨_, rfl⟩
  obtain ⟨n5, e5⟩ : ∃ n5, n5 = n4 + (n4 >>> 16) := ⟨_, rfl⟩
  obtain ⟨k1, k2, k3, k4, k5, k6, k7⟩ := hd_n hn e1 e2 e3 e4 e5
  have js : ∀ (q : Nat) (s : Fin 32), q < 65536 → jush (q : Int) (s.val : Int) = ((q >>> s.val : Nat) : Int) := fun q s hq => jush_n (x := (q : Int)) (by omega) (by omega) s
  have sl : ∀ q s : Nat, q < 65536 → q >>> s < 65536 := fun q s hq => by
    rw [Nat.shiftRight_eq_div_pow]
    exact Nat.lt_of_le_of_lt (Nat.div_le_self _ _) hq
  have ja : ∀ (q k : Nat), q < 2147483648 → k < 2147483648 → jand (q : Int) (k : Int) = ((q &&& k : Nat) : Int) := fun q k hq hk => by
    rw [jand_n (by omega) (by omega) (by omega) (by omega), Int.toNat_natCast, Int.toNat_natCast]
  have a1 : (n : Int) - jand (jush (n : Int) 1) 1431655765 = (n1 : Int) := by
    rw [show jush (n : Int) 1 = ((n >>> 1 : Nat) : Int) from js n 1 hn, show jand ((n >>> 1 : Nat) : Int) 1431655765 = (((n >>> 1) &&& 1431655765 : Nat) : Int) from ja (n >>> 1) 1431655765 (by have := sl n 1 hn; omega) (by decide)]
    omega
  have a2 : jand (n1 : Int) 858993459 + jand (jush (n1 : Int) 2) 858993459 = (n2 : Int) := by
    rw [show jush (n1 : Int) 2 = ((n1 >>> 2 : Nat) : Int) from js n1 2 k3, show jand ((n1 >>> 2 : Nat) : Int) 858993459 = (((n1 >>> 2) &&& 858993459 : Nat) : Int) from ja (n1 >>> 2) 858993459 (by have := sl n1 2 k3; omega) (by decide), show jand (n1 : Int) 858993459 = ((n1 &&& 858993459 : Nat) : Int) from ja n1 858993459 (by omega) (by decide)]
    omega
  have a3 : jand ((n2 : Int) + jush (n2 : Int) 4) 252645135 = (n3 : Int) := by
    rw [show jush (n2 : Int) 4 = ((n2 >>> 4 : Nat) : Int) from js n2 4 k4, show (n2 : Int) + ((n2 >>> 4 : Nat) : Int) = ((n2 + n2 >>> 4 : Nat) : Int) from rfl, show jand ((n2 + n2 >>> 4 : Nat) : Int) 252645135 = (((n2 + n2 >>> 4) &&& 252645135 : Nat) : Int) from ja (n2 + n2 >>> 4) 252645135 (by have := sl n2 4 k4; omega) (by decide)]
    omega
  have a4 : (n3 : Int) + jush (n3 : Int) 8 = (n4 : Int) := by
    rw [show jush (n3 : Int) 8 = ((n3 >>> 8 : Nat) : Int) from js n3 8 k5]
    omega
  have a5 : (n4 : Int) + jush (n4 : Int) 16 = (n5 : Int) := by
    rw [show jush (n4 : Int) 16 = ((n4 >>> 16 : Nat) : Int) from js n4 16 k6]
    omega
  have a6 : jand (n5 : Int) 63 = ((n5 &&& 63 : Nat) : Int) := ja n5 63 (by omega) (by decide)
  rw [a1, a2, a3, a4, a5, a6, k1, bc_pop hn]
theorem M_bits16 {x : Int} (h0 : 0 ≤ x) (h1 : x < 65536) : Z e d 207 0 [.int (iI x), .retAddr 0, .retAddr 0] [] m = ri (bc x) m ∧ 0 ≤ bc x ∧ bc x ≤ 16 := by
  have key := lpG (F := fun i y (_ : Unit) => Z e d 207 4 [.int (iI x), .int (iI y), .int (iI i)] [] m) (G := fun y => ri y m) (f := fun i y => y + jand (jshr x i) 1) (I := fun i y => 0 ≤ y ∧ y ≤ i) (n := 16) (by decide) 0 () (by decide)
    (by
      intro i y u g1 g2 gI
      have b := bit_b h0 (by omega) g1 (i := i) (by omega)
      refine ⟨⟨(), ?_⟩, by omega⟩
      refine (b_207_4).trans ?_
      simp (disch := first | omega | (simp (disch := first | decide | omega) only [um_k, um_e, um_i, uz_k]; omega) | exact cat_i | exact cat_u | exact cat_r | assumption | exact rfl) only [wr_of, ↓reduceIte, ck_T, lt_T, lt_F, le_T, le_F, eq_T, eq_F, and_true, true_and, and_false, false_and, or_true, true_or, or_false, false_or, and_self, or_self, not_true_eq_false, not_false_eq_true, implies_true, forall_const, true_implies, false_implies, ri_k, rn_k, rr_k, wr_bi, bi_e0, bi_e1, bi_T, bi_F, Classical.not_not, itp, itn, ck_t])
    (by
      intro y u gI
      refine (b_207_4).trans ?_
      simp (disch := first | omega | (simp (disch := first | decide | omega) only [um_k, um_e, um_i, uz_k]; omega) | exact cat_i | exact cat_u | exact cat_r | assumption | exact rfl) only [wr_of, ↓reduceIte, ck_T, lt_T, lt_F, le_T, le_F, eq_T, eq_F, and_true, true_and, and_false, false_and, or_true, true_or, or_false, false_or, and_self, or_self, not_true_eq_false, not_false_eq_true, implies_true, forall_const, true_implies, false_implies, ri_k, rn_k, rr_k, wr_bi, bi_e0, bi_e1, bi_T, bi_F, Classical.not_not, itp, itn, ck_t])
  refine ⟨?_, key.2⟩
  rw [b_207_0]
  exact key.1
/-- who is safe now -/
noncomputable def sfS (N : Int → Int) (o mi : Int) : Int := itr (fun p b => cif (sfN N o mi p) (jor b (jshl 1 p)) b) 0 (N 1).toNat 0
theorem sfS_b {o mi : Int} (b1 : 0 ≤ N 1 ∧ N 1 ≤ 16) : (0 ≤ sfS N o mi ∧ sfS N o mi < 65536) ∧ ∀ p, 0 ≤ p → (tb (sfS N o mi) p ↔ p < N 1 ∧ sfN N o mi p) := by
  have q := bset (P := sfN N o mi) (n := N 1) b1.1 (by omega)
  refine ⟨⟨q.1.1, Int.lt_of_lt_of_le q.1.2 ?_⟩, q.2⟩
  have h3 : (2 : Int) ^ (N 1).toNat ≤ 2 ^ 16 := by
    have := Nat.pow_le_pow_right (n := 2) (by decide) (show (N 1).toNat ≤ 16 by omega)
    exact_mod_cast this
  exact h3
theorem sfN_iff {o mi p : Int} : sfN N o mi p ↔ 0 < deg N mi (strt N o (N 0)) (N (110 + 9 * p + 0)) ∧ ff N o p (deg N mi (strt N o (N 0)) (N (110 + 9 * p + 0))) (N 0) (N 0) = -3 := by
  unfold sfN whyS
  generalize deg N mi (strt N o (N 0)) (N (110 + 9 * p + 0)) = g
  rcases fst1_cases (P := fls N o p g (N 0) (N 0)) (n := N 4) with z | z
  · have z1 : ff N o p g (N 0) (N 0) = -3 := z.1
    rw [if_neg (fun y => y z1)]
    by_cases g0 : 0 < g
    · rw [if_pos g0]; exact ⟨fun _ => ⟨g0, z1⟩, fun _ => rfl⟩
    · rw [if_neg g0]; exact ⟨fun y => absurd y (by decide), fun y => absurd y.1 g0⟩
  · have z1 : 0 ≤ ff N o p g (N 0) (N 0) := z.1
    rw [if_pos (by omega)]
    exact ⟨fun y => by omega, fun y => y.2⟩
theorem X_safe {o mi : Int} (X : LXm o (m 247 0) mi m) : Z e (d + 4) 33 0 [.ref 202, .retAddr 0, .retAddr 0, .retAddr 0, .retAddr 0] [] m = ri (sfS (m 247) o mi) m := by
  have X0 := X
  obtain ⟨⟨iN, iG, iP, iH, iS, iD, iT, iO, iU, iR, iV⟩, hr, lw, ga⟩ := X
  have bN := iN
  unfold cNum at bN
  have key := lpG (F := fun i y (u : Value × Value) => Z e (d + 4) 33 4 [.ref 202, .int (iI y), .int (iI i), u.1, u.2] [] m) (G := fun y => ri y m) (f := fun p b => cif (sfN (m 247) o mi p) (jor b (jshl 1 p)) b) (I := fun _ _ => True) (n := m 247 1) (by omega) 0 (.retAddr 0, .retAddr 0) trivial
    (by
      intro p y u g1 g2 gI
      have q := iP p g1 g2
      unfold pRow at q
      have t0 := get_4 (e := e) (d := d + 3) (m := m) (i := p) (j := 0) (by omega) (by omega) g1 (by omega) (by decide) (by decide)
      rw [q.1 0 (by decide) (by decide)] at t0
      have dg := X_degree (e := e) (d := d) X0 q.2.1.1 q.2.1.2
      have gb := deg_b (sB_of iN iS) (mi := mi) (st := strt (m 247) o (m 247 0)) (c := m 247 (110 + 9 * p + 0))
      have wp : wr p = p := wr_of (by omega) (by omega)
      have fs := L_first (e := e) (d := d) (p := p) (g := deg (m 247) mi (strt (m 247) o (m 247 0)) (m 247 (110 + 9 * p + 0))) (k := m 247 0) X0 wp (hr _ _) (by omega) bN.1.2
      have si := sfN_iff (N := m 247) (o := o) (mi := mi) (p := p)
      have w1 : wr (m 247 1) = m 247 1 := hr _ _
      have start : Z e (d + 4) 33 4 [.ref 202, .int (iI y), .int (iI p), u.1, u.2] [] m = _ := b_33_4
      rw [wp, bN.2.1.1, w1, itp g2, t0, ri_k, b_33_31, dg, ri_k, b_33_34, bN.1.1] at start
      generalize deg (m 247) mi (strt (m 247) o (m 247 0)) (m 247 (110 + 9 * p + 0)) = g at *
      have wg : wr g = g := wr_of (by omega) (by omega)
      rw [wg] at start
      have wf : wr (ff (m 247) o p g (m 247 0) (m 247 0)) = ff (m 247) o p g (m 247 0) (m 247 0) := by
        rcases fst1_cases (P := fls (m 247) o p g (m 247 0) (m 247 0)) (n := m 247 4) with z | z
        · have : ff (m 247) o p g (m 247 0) (m 247 0) = -3 := z.1
          rw [this]; rfl
        · have z1 : 0 ≤ ff (m 247) o p g (m 247 0) (m 247 0) := z.1
          have z2 : ff (m 247) o p g (m 247 0) (m 247 0) < m 247 4 := z.2.1
          exact wr_of (by omega) (by omega)
      by_cases g0 : 0 < g
      · rw [itp g0, fs, ri_k, b_33_59, wf] at start
        by_cases f0 : ff (m 247) o p g (m 247 0) (m 247 0) = -3
        · rw [itp f0, b_33_69 cat_i, itp (by decide)] at start
          rw [cif_t (si.mpr ⟨g0, f0⟩)]
          exact ⟨⟨(.int (iI g), .int (iI 1)), start⟩, trivial⟩
        · rw [itn f0, b_33_69 cat_i, itn (by decide)] at start
          rw [cif_f (fun z => f0 (si.mp z).2)]
          exact ⟨⟨(.int (iI g), .int (iI 0)), start⟩, trivial⟩
      · rw [itn g0, b_33_69 cat_i, itn (by decide)] at start
        rw [cif_f (fun z => g0 (si.mp z).1)]
        exact ⟨⟨(.int (iI g), .int (iI 0)), start⟩, trivial⟩)
    (by
      intro y u gI
      refine (b_33_4).trans ?_
      have w1 : wr (m 247 1) = m 247 1 := hr _ _
      rw [bN.2.1.1, w1, itn (by omega)])
  rw [b_33_0]
  exact key.1
theorem M_safeBy {v mi : Int} {F : zMm} (hC : Core F (m0 247)) (hr0 : Rng m0) (R : RM m0 m) (ho : m0 246 13 = -1) (hv : wr v = v) (hm : mil (um m0 246 13 v) (m0 247 0) mi) : ∃ m', Z e (d + 14) 297 0 [.ref 246, .int (iI v), .retAddr 0, .retAddr 0] [] m = ri (sfS (m0 247) v mi) m' ∧ RM m0 m' := by
  have hC0 := hC
  obtain ⟨iN, iG, iP, iH, iS, iD, iT, iO, iU, iR, iV⟩ := hC
  have bN := iN
  unfold cNum at bN
  have u247 : um m0 246 13 v 247 = m0 247 := um_r (by decide)
  have u13 : um m0 246 13 v 246 13 = v := um_s
  have R1 := RM.um246 (i := 13) (by decide) R hv
  have w1 : wr (m0 247 1) = m0 247 1 := hr0 _ _
  have loop : ∀ (j : Nat) (p y : Int) (m1 : zMm), p + j = m0 247 1 → 0 ≤ p → wr y = y → RM (um m0 246 13 v) m1 → ∃ m', Z e (d + 14) 297 9 [.ref 246, .int (iI v), .int (iI y), .int (iI p)] [] m1 = ri (itr (fun p b => cif (sfN (m0 247) v mi p) (jor b (jshl 1 p)) b) p j y) m' ∧ RM m0 m' := by
    intro j
    induction j with
    | zero =>
      intro p y m1 hp p0 wy R2
      refine ⟨um m1 246 13 (-1), ?_, RM.back (by decide) ho rfl R2⟩
      have n1 := R2.n
      rw [u247] at n1
      refine (b_297_9).trans ?_
      rw [wr_of (x := p) (by omega) (by omega), n1, w1, itn (by omega)]
      rfl
    | succ j ih =>
      intro p y m1 hp p0 wy R2
      have n1 := R2.n
      rw [u247] at n1
      obtain ⟨m2, b1, b2⟩ := M_safeNow (e := e) (d := d) (m0 := um m0 246 13 v) (m := m1) (p := p) (mi := mi) (F := F) (by rw [u247]; exact hC0) (hr0.um hv) R2 p0 (by rw [u247]; omega) (by rw [u247]; exact hm)
      rw [u247, u13] at b1
      have wy2 : wr (cif (sfN (m0 247) v mi p) (jor y (jshl 1 p)) y) = cif (sfN (m0 247) v mi p) (jor y (jshl 1 p)) y := by
        by_cases z : sfN (m0 247) v mi p
        · rw [cif_t z]; exact wr_jor
        · rw [cif_f z]; exact wy
      obtain ⟨m3, c1, c2⟩ := ih (p + 1) (cif (sfN (m0 247) v mi p) (jor y (jshl 1 p)) y) m2 (by omega) (by omega) wy2 b2
      refine ⟨m3, ?_, c2⟩
      rw [itr, ← c1]
      refine (b_297_9).trans ?_
      rw [wr_of (x := p) (by omega) (by omega), n1, w1, itp (by omega), b1, ri_k, b_297_25 cat_i, wr_bi]
      by_cases z : sfN (m0 247) v mi p
      · rw [bi_t z, itp (by decide), cif_t z]
      · rw [bi_f z, itn (by decide), cif_f z, jor_0 wy]
  rw [b_297_0]
  exact loop (m0 247 1).toNat 0 0 _ (by omega) (by omega) rfl R1
end MY
