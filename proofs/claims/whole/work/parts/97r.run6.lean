/-! The run: the call. -/
section RY
variable {e : List Int32 × Value} {d : Nat} {m : zMm} {N : Int → Int} {to lg fr : Int} {w : Int → Int}
theorem C_find (hI : Inv m) (f0 : 0 ≤ fr) (f1 : fr < 100) (t0 : 0 ≤ to) (t1 : to < 100) (l0 : 1 ≤ lg) (l1 : lg ≤ 4) : ∃ m' w, isWay (wall (m 247)) fr w ∧ Rng m' ∧ (∀ k, ¬ k = 193 → ¬ (226 ≤ k ∧ k ≤ 233) → m' k = m k) ∧ (((aV (m 247) to lg 60 fr < 1000000 ∧ ¬ wall (m 247) fr) ∧ Z e (d + 4) 43 0 [.ref 226, .int (iI fr), .int (iI to), .int (iI lg), .retAddr 0] [] m = ri 1 m' ∧ m' 226 8 = 1 ∧ m' 230 3 = aV (m 247) to lg 60 fr % 1000 ∧ m' 232 3 = aV (m 247) to lg 60 fr % 1000 ∧ rwC (m 247) to lg fr (aV (m 247) to lg 60 fr % 1000).toNat 231 m' ∧ rwC (m 247) to lg fr (aV (m 247) to lg 60 fr % 1000).toNat 233 m') ∨ (¬ (aV (m 247) to lg 60 fr < 1000000 ∧ ¬ wall (m 247) fr) ∧ Z e (d + 4) 43 0 [.ref 226, .int (iI fr), .int (iI to), .int (iI lg), .retAddr 0] [] m = ri 0 m' ∧ (∀ k, ¬ k = 193 → ¬ k = 228 → m' k = m k))) := by
  obtain ⟨hr, ⟨iN, iG, iP, iH, iS, iD, iT, iO, iU, iR, iV⟩, iK, iL, iF, iB, iA, iW, iX⟩ := id hI
  have bN := iN
  unfold cNum at bN
  obtain ⟨m1, a1, a2, a3, a4⟩ := R_spread (e := e) (d := d + 2) (m := m) (a2 := 228) (a := fr) ⟨hs_228, by decide⟩ (by decide) (by decide) (by decide) (by decide) hr (fun c g0 g1 => (iG c g0 g1).1) iB f0 f1
  have wt : wr to = to := wr_of (by omega) (by omega)
  have wl : wr lg = lg := wr_of (by omega) (by omega)
  have wv : wr (m1 228 to) = m1 228 to := a3 228 to
  have start : Z e (d + 4) 43 0 [.ref 226, .int (iI fr), .int (iI to), .int (iI lg), .retAddr 0] [] m = _ := b_43_0
  rw [wl, itn (by omega), a1, rn_k, b_43_19, wt, ck_t ⟨t0, t1⟩, ck_t (fun _ => ⟨t0, t1⟩), wv] at start
  have iff := run_iff (to := to) (lg := lg) a2 f0 f1 t0 t1
  by_cases q : m1 228 to = -3 ∨ 60 < m1 228 to
  · rw [itp q] at start
    exact ⟨m1, m1 228, a2, a3, fun k k1 k2 => a4 k (by omega) k1, Or.inr ⟨fun z => (iff.mp z) q, start, fun k k1 k2 => a4 k k2 k1⟩⟩
  · rw [itn q] at start
    have yes := iff.mpr q
    have e247 : m1 247 = m 247 := a4 247 (by decide) (by decide)
    have iN1 : cNum m1 (m1 247) := by
      unfold cNum at iN ⊢
      rw [e247, a4 1 (by decide) (by decide), a4 4 (by decide) (by decide), a4 6 (by decide) (by decide), a4 8 (by decide) (by decide), a4 10 (by decide) (by decide), a4 12 (by decide) (by decide), a4 14 (by decide) (by decide), a4 16 (by decide) (by decide)]
      exact iN
    have iO1 : cPos m1 (m1 247) := by
      rw [e247]
      intro q q0 q1
      have := iO q q0 q1
      unfold oRow at this ⊢
      rw [a4 15 (by decide) (by decide)]
      exact this
    obtain ⟨m2, b1, b2, b3, b4⟩ := C_clks (e := e) (d := d) (m := m1) (x1 := fr) (x2 := to) (x3 := lg) iN1 iO1 100 0 m1 (by decide) (by decide) a3 (fun _ _ => rfl) (fun c' h a b _ _ => by omega)
    rw [e247] at b2
    have e228 : m2 228 = m1 228 := b3 228 (by decide)
    have fr2 : ∀ k, ¬ k = 193 → ¬ (226 ≤ k ∧ k ≤ 233) → m2 k = m k := fun k k1 k2 => by rw [b3 k (by omega)]; exact a4 k (by omega) k1
    have B2 : beside m2 := beside_cg (fr2 192 (by decide) (by decide)) iB
    have c10 : m2 1 0 = m 247 0 := by rw [fr2 1 (by decide) (by decide)]; exact bN.1.1
    obtain ⟨m3, c1, c2, c3, c4⟩ := C_prs (e := e) (d := d) (m := m2) (N := m 247) (to := to) (lg := lg) (fr := fr) (x1 := fr) (by rw [e228]; exact a2) B2 b2 c10 (by omega) (by omega) l0 l1 t0 t1 61 60 m2 (by decide) (by decide) b4 (fun _ _ => rfl) (fun n' c' a b _ _ z => by have z' : (60 : Int) < n' := z; omega)
    have fr3 : ∀ k, ¬ k = 193 → ¬ (226 ≤ k ∧ k ≤ 233) → m3 k = m k := fun k k1 k2 => by rw [c3 k (by omega)]; exact fr2 k k1 k2
    have b60 := (aV_b (N := m 247) (to := to) (lg := lg) 60 fr (by decide)).1.resolve_left (by have := yes.1; omega)
    have hW3 : isWay (wall (m 247)) fr (m2 228) := by rw [e228]; exact a2
    obtain ⟨m4, v4, v5, v6, v7, d1, d2, d3, d4, d5⟩ := C_rows (e := e) (d := d + 1) (m := um m3 232 3 0) (N := m 247) (to := to) (lg := lg) (fr := fr) (w := m2 228) (c4.um rfl) hW3 (beside_cg (by rw [um_r (by decide)]; exact fr3 192 (by decide) (by decide)) iB) (fun c' h' a b cc dd => by rw [um_r (by decide), c3 229 (by decide)]; exact b2 c' h' a b cc dd) (fun n' c' a b cc dd z => by rw [um_r (by decide)]; exact c2 n' c' a b cc dd z) (by rw [um_r (by decide), c3 1 (by decide)]; exact c10) (by omega) (by omega) l0 l1 t0 t1 (aV (m 247) to lg 60 fr % 1000).toNat 0 (um m3 232 3 0) (.int (iI fr)) (.retAddr 0) (.retAddr 0) (by omega) (PI.zero hW3 f0 f1 yes.2 yes.1) (c4.um rfl) (by rw [um_s]; rfl) (fun i hi => by omega) (fun _ _ _ => rfl)
    have d1' : Z e (d + 3) 48 14 [.ref 226, .int (iI fr), .int (iI to), .int (iI lg), .int (iI fr), .int (iI 0), .retAddr 0, .retAddr 0] [] (um m3 232 3 0) = Z e (d + 3) 48 97 [.ref 226, .int (iI fr), .int (iI to), .int (iI lg), v4, v5, v6, v7] [] m4 := d1
    have cp := T_copy (e := e) (d := d + 2) (m := m4) zTab_230 zTab_232 (by decide) (by omega) (by omega) (by decide) (by decide)
    generalize hK : aV (m 247) to lg 60 fr % 1000 = K at *
    rw [d2] at cp
    refine ⟨um (uc (um m4 230 3 K) 233 0 231 0 (K * 2)) 226 8 1, m2 228, hW3, ?_, ?_, Or.inl ⟨yes, ?_, ?_, ?_, ?_, ?_, ?_⟩⟩
    · exact (Rng.uc (d5.um (wr_of (by omega) (by omega)))).um rfl
    · intro k k1 k2
      rw [um_r (by omega), uc_r (by omega), um_r (by omega), d4 k (by omega) (by omega), um_r (by omega)]
      exact fr3 k k1 k2
    · rw [start, b1, c1, b_43_104, b_48_0, d1', b_48_97, cp, rn_k, b_48_108, rn_k, b_43_111]
      rfl
    · rw [um_s]
    · rw [um_r (by decide), uc_r (by decide), um_s]
    · rw [um_r (by decide), uc_r (by decide), um_r (by decide)]; exact d2
    · intro i hi
      rw [um_r (by decide), uc_in (by omega) (by omega), uc_in (by omega) (by omega), um_r (by decide)]
      exact d3 i hi
    · intro i hi
      rw [um_r (by decide), uc_r (by decide), um_r (by decide)]
      exact d3 i hi
theorem C_seen (hr : Rng m) (k0 : 0 ≤ m 232 3) (k1 : m 232 3 ≤ 60) (rw1 : rwC N to lg fr (m 232 3).toNat 233 m) : Z e (d + 1) 50 0 [.ref 226, .retAddr 0, .retAddr 0] [] m = ri (ssum N to lg fr (m 232 3).toNat) m := by
  have loop : ∀ (j n : Nat), n + j = (m 232 3).toNat → Z e (d + 1) 50 4 [.ref 226, .int (iI (ssum N to lg fr n)), .int (iI (n : Int))] [] m = ri (ssum N to lg fr (m 232 3).toNat) m := by
    intro j
    induction j with
    | zero =>
      intro n hj
      refine (b_50_4).trans ?_
      rw [wr_of (x := (n : Int)) (by omega) (by omega), hr _ _, itn (by omega), show n = (m 232 3).toNat by omega]
    | succ j ih =>
      intro n hj
      refine (b_50_4).trans ?_
      have g := get_232 (e := e) (d := d) (m := m) (i := (n : Int)) (j := 1) k0 k1 (by omega) (by omega) (by decide) (by decide)
      rw [wr_of (x := (n : Int)) (by omega) (by omega), hr _ _, itp (by omega), g, ri_k, b_50_25, (rw1 n (by omega)).2, ← ssum_s]
      exact ih (n + 1) (by omega)
  rw [b_50_0]
  exact loop (m 232 3).toNat 0 (by omega)
theorem Inv_R {m' : zMm} (hI : Inv m) (r1 : Rng m') (f : ∀ k, ¬ k = 193 → ¬ (226 ≤ k ∧ k ≤ 233) → ¬ k = 246 → ¬ k = 250 → ¬ k = 251 → ¬ k = 260 → m' k = m k) (g : ∀ i, ¬ i = 7 → ¬ i = 8 → m' 246 i = m 246 i) (hR : Rows m') : Inv m' := by
  obtain ⟨hr, ⟨iN, iG, iP, iH, iS, iD, iT, iO, iU, iR, iV⟩, iK, iL, iF, iB, iA, iW, iX⟩ := id hI
  have bN := iN
  unfold cNum at bN
  have hC : Core m (m 247) := ⟨iN, iG, iP, iH, iS, iD, iT, iO, iU, iR, iV⟩
  have f0 := f 0 (by decide) (by decide) (by decide) (by decide) (by decide) (by decide)
  have f247 := f 247 (by decide) (by decide) (by decide) (by decide) (by decide) (by decide)
  have f248 := f 248 (by decide) (by decide) (by decide) (by decide) (by decide) (by decide)
  have ff : ∀ k, ¬ (k = 193 ∨ (226 ≤ k ∧ k ≤ 233) ∨ k = 246 ∨ k = 250 ∨ k = 251 ∨ k = 260) → m' k = m k := fun k h => f k (by omega) (by omega) (by omega) (by omega) (by omega) (by omega)
  refine ⟨r1, ?_, ?_, ?_, ?_, ?_, ?_, hR, ?_⟩
  · exact Core_cg (fun k _ _ => ff k (by omega)) (fun i _ _ => by rw [f247]) hC
  · exact Kept_cg (by rw [f0]) (g 2 (by decide) (by decide)) (fun k _ _ => ff k (by omega)) f248 iK
  · exact LawOK_cg (ff 202 (by omega)) (ff 204 (by omega)) (ff 205 (by omega)) (fun k _ _ => ff k (by omega)) (by omega) (by rw [f247]) iL
  · exact RefOK_cg (g 12 (by decide) (by decide)) (g 13 (by decide) (by decide)) (g 14 (by decide) (by decide)) (ff 254 (by omega)) (by rw [f247]) iF
  · exact beside_cg (ff 192 (by omega)) iB
  · exact Tape_cg (by rw [ff 179 (by omega)]) (g 4 (by decide) (by decide)) (ff 180 (by omega)) (ff 249 (by omega)) iA
  · exact Host_cg (fun k _ _ => ff k (by omega)) (by rw [ff 234 (by omega)]) (g 35 (by decide) (by decide)) (fun k _ _ => ff k (by omega)) iX
theorem rwC_eq {n k k' : Nat} {m' : zMm} {i : Int} (h : rwC N to lg fr n k m) (h' : rwC N to lg fr n k' m') (i0 : 0 ≤ i) (i1 : i < 2 * n) : m k i = m' k' i := by
  have a := h (i / 2).toNat (by omega)
  have b := h' (i / 2).toNat (by omega)
  rcases (by omega : i = ((i / 2).toNat : Int) * 2 + 0 ∨ i = ((i / 2).toNat : Int) * 2 + 1) with z | z
  · rw [z, a.1, b.1]
  · rw [z, a.2, b.2]
theorem call_run {x2 x3 x4 x5 : Int} (hI : Inv m) (h2 : wr x2 = x2) (h3 : wr x3 = x3) (h4 : wr x4 = x4) (h5 : wr x5 = x5) : Both (Z e (d + 5) 170 0 [.ref 0, .int (iI (x2)), .int (iI (x3)), .int (iI (x4)), .int (iI (x5))] []) (Z e (d + 5) 285 0 [.ref 246, .int (iI (x2)), .int (iI (x3)), .int (iI (x4)), .int (iI (x5)), .retAddr 0, .retAddr 0, .retAddr 0, .retAddr 0, .retAddr 0, .retAddr 0, .retAddr 0] []) m := by
  obtain ⟨hr, ⟨iN, iG, iP, iH, iS, iD, iT, iO, iU, iR, iV⟩, iK, iL, iF, iB, iA, iW, iX⟩ := id hI
  have bN := iN
  unfold cNum at bN
  by_cases ok : (0 ≤ x2 ∧ x2 < 100) ∧ (0 ≤ x3 ∧ x3 < 100) ∧ (1 ≤ x4 ∧ x4 ≤ 4) ∧ 0 ≤ x5 ∧ x5 ≤ 2
  · obtain ⟨⟨f0, f1⟩, ⟨t0, t1⟩, ⟨l0, l1⟩, y0, y2⟩ := ok
    obtain ⟨m1, w, hW, r1, fr1, alt⟩ := C_find (e := e) (d := d) (m := m) (to := x3) (lg := x4) (fr := x2) hI f0 f1 t0 t1 l0 l1
    have e247 : m1 247 = m 247 := fr1 247 (by decide) (by decide)
    have b6 : 0 ≤ m 247 6 ∧ m 247 6 ≤ 8 := by omega
    have h00 : 0 ≤ m 247 0 := by omega
    have h09 : m 247 0 ≤ 9999 := by omega
    have pO := pos_b iO
    clear iN iG iP iH iS iD iT iO iU iR iV iK iL iF iB iA iW iX bN
    obtain ⟨m2, a1, a2, a3, a4⟩ := M_findRun (e := e) (d := d) (m := m1) (N := m 247) (to := x3) (lg := x4) r1 e247 b6 pO h00 h09 l0 l1 t0 t1
    have T0 := a2 0 x2 (by decide) (by decide) f0 f1 trivial
    rw [show 100 * (0 : Int) + x2 = x2 by omega, show ((60 : Int) - 0).toNat = 60 from rfl] at T0
    have f247 : m2 247 = m 247 := by rw [a3 247 (by decide)]; exact e247
    have wi : wr (10 + x2) = 10 + x2 := wr_of (by omega) (by omega)
    have nv : wr (m 247 (10 + x2)) = m 247 (10 + x2) := hr 247 _
    have sP : Z e (d + 5) 170 0 [.ref 0, .int (iI (x2)), .int (iI (x3)), .int (iI (x4)), .int (iI (x5))] [] m = (Z e (d + 4) 43 0 [.ref 226, .int (iI x2), .int (iI x3), .int (iI x4), .retAddr 0] [] m).bind (ZK e (d + 5) 170 47 [.ref 0, .int (iI x2), .int (iI x3), .int (iI x4), .int (iI x5)] [] m) := by
      refine (b_170_0).trans ?_
      rw [h2, h3, h4, h5, itn (by omega)]
    have sM : Z e (d + 5) 285 0 [.ref 246, .int (iI (x2)), .int (iI (x3)), .int (iI (x4)), .int (iI (x5)), .retAddr 0, .retAddr 0, .retAddr 0, .retAddr 0, .retAddr 0, .retAddr 0, .retAddr 0] [] m1 = Z e (d + 5) 285 41 [.ref 246, .int (iI x2), .int (iI x3), .int (iI x4), .int (iI x5), .retAddr 0, .retAddr 0, .retAddr 0, .retAddr 0, .retAddr 0, .retAddr 0, .retAddr 0] [] m2 := by
      refine (b_285_0).trans ?_
      rw [h2, h3, h4, h5, itn (by show ¬ (¬ ((0 : Int) ≤ x2 ∧ x2 ≤ 99) ∨ ¬ ((0 : Int) ≤ x3 ∧ x3 ≤ 99) ∨ ¬ ((1 : Int) ≤ x4 ∧ x4 ≤ 4) ∨ ¬ ((0 : Int) ≤ x5 ∧ x5 ≤ 2)); omega), a1, rn_k]
    have vb := (aV_b (N := m 247) (to := x3) (lg := x4) 60 x2 (by decide)).1
    have wv : wr (m2 260 x2) = m2 260 x2 := a4 260 x2
    rcases alt with ⟨yes, g1, g2, g3, g4, g5, g6⟩ | ⟨no, g1, g2⟩
    · have b60 := vb.resolve_left (by have := yes.1; omega)
      have P := PI_all hW f0 f1 yes.2 yes.1 (aV (m 247) x3 x4 60 x2 % 1000).toNat (by omega)
      have at1 := P.at_to.mpr (by omega)
      have z := P.2.2.2.2.2.2
      have az := (aV_b (N := m 247) (to := x3) (lg := x4) (60 - ((aV (m 247) x3 x4 60 x2 % 1000).toNat : Int)).toNat (pcS (m 247) x3 x4 x2 (aV (m 247) x3 x4 60 x2 % 1000).toNat) (by omega)).2.mpr ⟨at1, P.2.2.1⟩
      rw [az] at z
      have zs : ssum (m 247) x3 x4 x2 (aV (m 247) x3 x4 60 x2 % 1000).toNat = aV (m 247) x3 x4 60 x2 / 1000 := by rw [← z]; show _ = (0 : Int) + _; omega
      have sM2 := sM
      rw [b_285_41] at sM2
      have nw : ¬ m 247 (10 + x2) = 1 := yes.2
      have jr : jrem (aV (m 247) x3 x4 60 x2) 1000 = aV (m 247) x3 x4 60 x2 % 1000 := jrem_n (by omega) (by omega) (by decide) (by decide)
      have jd : jdiv (aV (m 247) x3 x4 60 x2) 1000 = aV (m 247) x3 x4 60 x2 / 1000 := jdiv_n (by omega) (by omega) (by decide) (by decide)
      have wa : wr (aV (m 247) x3 x4 60 x2) = aV (m 247) x3 x4 60 x2 := wr_of (by omega) (by omega)
      rw [wi, f247, nv, itn nw, ck_t (by omega), h2, ck_t (by omega), T0, wa, itn (by have := yes.1; omega), jr, um_s] at sM2
      obtain ⟨m3, hm3⟩ : ∃ m3, m3 = um (um m2 246 7 (aV (m 247) x3 x4 60 x2 % 1000)) 246 8 (aV (m 247) x3 x4 60 x2 % 1000) := ⟨_, rfl⟩
      rw [← hm3] at sM2
      have r3 : Rng m3 := by rw [hm3]; exact (a4.um (wr_of (by omega) (by omega))).um (wr_of (by omega) (by omega))
      have x7 : m3 246 7 = aV (m 247) x3 x4 60 x2 % 1000 := by rw [hm3, um_i (by decide), um_s]
      have x8 : m3 246 8 = aV (m 247) x3 x4 60 x2 % 1000 := by rw [hm3, um_s]
      have xk : ∀ k, ¬ k = 246 → m3 k = m2 k := fun k hk => by rw [hm3, um_r hk, um_r hk]
      have xi : ∀ i, ¬ i = 7 → ¬ i = 8 → m3 246 i = m2 246 i := fun i i7 i8 => by rw [hm3, um_i (by omega), um_i (by omega)]
      obtain ⟨m4, v6, v7, v8, v9, v10, v11, p1, p2, p3, p4, p5⟩ := M_rows (e := e) (d := d) (m := m3) (N := m 247) (to := x3) (lg := x4) (fr := x2) (w := w) (x4 := x5) (x5 := aV (m 247) x3 x4 60 x2) (u1 := .int (iI x2)) (u2 := .int (iI x3)) (by rw [xk 247 (by decide)]; exact f247) b6 pO h00 h09 l0 l1 hW (fun n' c' a b cc dd z => by rw [xk 260 (by decide)]; exact a2 n' c' a b cc dd z) x7 (aV (m 247) x3 x4 60 x2 % 1000).toNat 0 m3 (.retAddr 0) (.retAddr 0) (.retAddr 0) (.retAddr 0) (by omega) (PI.zero hW f0 f1 yes.2 yes.1) r3 (fun i hi => by omega) (fun i hi => by omega) (fun _ _ _ => rfl)
      have p1' : Z e (d + 5) 285 98 [.ref 246, .int (iI x2), .int (iI x3), .int (iI x4), .int (iI x5), .int (iI (aV (m 247) x3 x4 60 x2)), .int (iI x2), .int (iI 0), .retAddr 0, .retAddr 0, .retAddr 0, .retAddr 0] [] m3 = Z e (d + 5) 285 292 [.ref 246, .int (iI x2), .int (iI x3), .int (iI x4), .int (iI x5), .int (iI (aV (m 247) x3 x4 60 x2)), v6, v7, v8, v9, v10, v11] [] m4 := p1
      have e7 : m4 246 7 = aV (m 247) x3 x4 60 x2 % 1000 := by rw [p4 246 (by decide) (by decide)]; exact x7
      have e8 : m4 246 8 = aV (m 247) x3 x4 60 x2 % 1000 := by rw [p4 246 (by decide) (by decide)]; exact x8
      have wK : wr (aV (m 247) x3 x4 60 x2 % 1000) = aV (m 247) x3 x4 60 x2 % 1000 := wr_of (by omega) (by omega)
      rw [p1', b_285_292, h5, jd, e7, wK] at sM2
      have ek : ∀ k, ¬ k = 246 → ¬ k = 250 → ¬ k = 251 → ¬ k = 260 → m4 k = m1 k := fun k q1 q2 q3 q4 => by rw [p4 k q2 q3, xk k q1, a3 k q4]
      have rows : Rows m4 := by
        unfold Rows
        rw [ek 230 (by decide) (by decide) (by decide) (by decide), ek 226 (by decide) (by decide) (by decide) (by decide), ek 232 (by decide) (by decide) (by decide) (by decide), ek 231 (by decide) (by decide) (by decide) (by decide), ek 233 (by decide) (by decide) (by decide) (by decide), e7, e8, g2, g3, g4]
        refine ⟨by omega, Or.inr ⟨rfl, rfl, by omega, by omega⟩, fun i i0 i1 => rwC_eq g5 p2 i0 (by omega), fun i i0 i1 => rwC_eq g6 p3 i0 (by omega)⟩
      have inv : Inv m4 := Inv_R hI p5 (fun k q1 q2 q3 q4 q5 q6 => by rw [ek k q3 q4 q5 q6]; exact fr1 k q1 q2) (fun i i7 i8 => by rw [p4 246 (by decide) (by decide), xi i i7 i8, a3 246 (by decide), fr1 246 (by decide) (by decide)]) rows
      rw [g1, ri_k, b_170_47, show wr 1 = 1 from rfl, itn (by decide), h5] at sP
      by_cases c0 : x5 = 0
      · rw [itp c0] at sM2 sP
        have cs := C_seen (e := e) (d := d + 3) (m := m1) (N := m 247) (to := x3) (lg := x4) (fr := x2) r1 (by omega) (by omega) (by rw [g4]; exact g6)
        rw [g4, zs] at cs
        rw [cs, ri_k, b_170_65] at sP
        exact ⟨_, m1, m4, sP, sM2, inv⟩
      · rw [itn c0] at sM2 sP
        by_cases c1 : x5 = 1
        · rw [itp c1] at sM2 sP
          rw [g3] at sP
          exact ⟨_, m1, m4, sP, sM2, inv⟩
        · rw [itn c1] at sM2 sP
          by_cases c2 : aV (m 247) x3 x4 60 x2 % 1000 = 0
          · rw [itp c2] at sM2
            rw [get_230_n (by omega), ri_k, b_170_95] at sP
            exact ⟨_, m1, m4, sP, sM2, inv⟩
          · rw [itn c2] at sM2
            rw [get_230 (by omega) (by omega) (by decide) (by omega) (by decide) (by decide), ri_k, b_170_95] at sP
            have q := rwC_eq g5 p2 (i := 0) (by decide) (by omega)
            rw [show (0 : Int) * 2 + 0 = 0 from rfl, q] at sP
            exact ⟨_, m1, m4, sP, sM2, inv⟩
    · have hv : (if m 247 (10 + x2) = 1 then (1000000 : Int) else m2 260 x2) = 1000000 := by
        by_cases z : m 247 (10 + x2) = 1
        · rw [itp z]
        · rw [itn z, T0]
          rcases vb with y | y
          · exact y
          · exact absurd ⟨by omega, z⟩ no
      refine ⟨-3, m1, m2, ?_, ?_, ?_⟩
      · rw [sP, g1, ri_k, b_170_47, show wr 0 = 0 from rfl, itp rfl]
      · rw [sM, b_285_41, wi, f247, nv, h2, hv, ck_t (by omega), ck_t (by omega), show wr 1000000 = 1000000 from rfl, itp rfl]
      · refine Inv_scr hI a4 (fun k hk => ?_)
        unfold scr at hk
        rw [a3 k (by omega)]
        exact g2 k (by omega) (by omega)
  · refine Both.same hI (-1) ?_ ?_
    · refine (b_170_0).trans ?_
      rw [h2, h3, h4, h5, itp (by omega)]
    · refine (b_285_0).trans ?_
      rw [h2, h3, h4, h5, itp (by show (¬ ((0 : Int) ≤ x2 ∧ x2 ≤ 99) ∨ ¬ ((0 : Int) ≤ x3 ∧ x3 ≤ 99) ∨ ¬ ((1 : Int) ≤ x4 ∧ x4 ≤ 4) ∨ ¬ ((0 : Int) ≤ x5 ∧ x5 ≤ 2)); omega)]
end RY
