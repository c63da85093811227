/-! The class learns deeds, and looks at an hour. -/
section AA
variable {e : List Int32 × Value} {d : Nat} {m : zMm} {N N' : Int → Int}
/-- what the class knows of stones and deeds -/
def LW (N : Int → Int) (o : Int) (m : zMm) : Prop := (∀ s, 0 ≤ s → s < N 2 → isWay (wall N) (N (254 + 2 * s)) (m (196 + s.toNat))) ∧ (∀ q, 0 ≤ q → q < N 4 → m 204 q = timS N q ∧ (∀ i, 0 ≤ i → i < 3 → jand (jshr (m 205 q) i) 1 = mrk N o q i))
theorem timS_b {q : Int} : 0 ≤ timS N q ∧ timS N q ≤ (N 4).toNat := by
  unfold timS
  generalize (N 4).toNat = k
  induction k with
  | zero => exact ⟨Int.le_refl 0, Int.le_refl 0⟩
  | succ k ik =>
    rw [itr_succ]
    have hb : ∀ P : Prop, 0 ≤ bi P ∧ bi P ≤ 1 := fun P => by rcases bi_01 (P := P) with z | z <;> omega
    have := hb ((N (794 + 6 * (0 + (k : Int)) + 0) = N (794 + 6 * q + 0) ∧ N (794 + 6 * (0 + (k : Int)) + 1) = N (794 + 6 * q + 1)) ∧ N (794 + 6 * (0 + (k : Int)) + 3) ≤ N (794 + 6 * q + 3))
    omega
theorem GA_k {y : List Int × Int × Int × Int} {m0 : zMm} (g : GA m0 y m) {k : Nat} (h1 : ¬ k = 202) (h2 : ¬ k = 203) : m k = m0 k := g.1 k h1 h2
theorem learn_ok {o : Int} (hr : Rng m) (iN : cNum m (m 247)) (iS : cSto m (m 247)) (iD : cDee m (m 247)) (iV : cVer m (m 247)) (hw : ∀ s, 0 ≤ s → s < m 247 2 → isWay (wall (m 247)) (m 247 (254 + 2 * s)) (m (196 + s.toNat))) (hal : m 202 3 = -3 ∨ (0 ≤ m 202 3 ∧ m 202 3 < m 247 3)) (ho : oA (m 202 3) = o) : ∃ m', Z e (d + 3) 24 0 [.ref 202, .retAddr 0, .retAddr 0, .retAddr 0, .retAddr 0, .retAddr 0] [] m = rn m' ∧ (∀ k, ¬ (202 ≤ k ∧ k ≤ 205) → m' k = m k) ∧ (∀ i, ¬ (5 ≤ i ∧ i ≤ 8) → m' 202 i = m 202 i) ∧ LW (m 247) o m' ∧ Rng m' := by
  have bN := iN
  unfold cNum at bN
  have hB := vB_of iN iV
  have hS := sB_of iN iS
  have : ∀ (j : Nat) (q : Int) (m1 : zMm) (u2 u3 u4 u5 : Value), q + j = m 247 4 → 0 ≤ q → (∀ k, ¬ (202 ≤ k ∧ k ≤ 205) → m1 k = m k) → (∀ i, ¬ (5 ≤ i ∧ i ≤ 8) → m1 202 i = m 202 i) → (∀ q', 0 ≤ q' → q' < q → m1 204 q' = timS (m 247) q' ∧ (∀ i, 0 ≤ i → i < 3 → jand (jshr (m1 205 q') i) 1 = mrk (m 247) o q' i)) → Rng m1 → ∃ m', Z e (d + 3) 24 2 [.ref 202, .int (iI q), u2, u3, u4, u5] [] m1 = rn m' ∧ (∀ k, ¬ (202 ≤ k ∧ k ≤ 205) → m' k = m k) ∧ (∀ i, ¬ (5 ≤ i ∧ i ≤ 8) → m' 202 i = m 202 i) ∧ (∀ q', 0 ≤ q' → q' < m 247 4 → m' 204 q' = timS (m 247) q' ∧ (∀ i, 0 ≤ i → i < 3 → jand (jshr (m' 205 q') i) 1 = mrk (m 247) o q' i)) ∧ Rng m' := by
    intro j
    induction j with
    | zero =>
      intro q m1 u2 u3 u4 u5 hq q0 f1 f2 hd r1
      have : q = m 247 4 := by omega
      subst this
      refine ⟨m1, (b_24_2).trans ?_, f1, f2, hd, r1⟩
      have e8 : m1 8 3 = m 247 4 := by rw [f1 8 (by omega)]; exact bN.2.2.2.2.1.1
      simp (disch := first | omega | (simp (disch := first | decide | omega) only [um_k, um_e, um_i, uz_k]; omega) | exact cat_i | exact cat_u | exact cat_r | assumption | exact rfl) only [e8, wr_of, ↓reduceIte, ck_T, lt_T, lt_F, le_T, le_F, eq_T, eq_F, and_true, true_and, and_false, false_and, or_true, true_or, or_false, false_or, and_self, or_self, not_true_eq_false, not_false_eq_true, implies_true, forall_const, true_implies, false_implies, ri_k, rn_k, rr_k, wr_bi, bi_e0, bi_e1, bi_T, bi_F, Classical.not_not, itp, itn, ck_t]
    | succ j ih =>
      intro q m1 u2 u3 u4 u5 hq q0 f1 f2 hd r1
      have dq := iD q q0 (by omega)
      unfold dRow at dq
      obtain ⟨df, d0, d1, d2, d3, d4, d5⟩ := dq
      have f247 : m1 247 = m 247 := f1 247 (by omega)
      have iN1 : cNum m1 (m1 247) := by rw [f247]; exact cNum_cg (f1 _ (by omega)) (f1 _ (by omega)) (f1 _ (by omega)) (f1 _ (by omega)) (f1 _ (by omega)) (f1 _ (by omega)) (f1 _ (by omega)) (f1 _ (by omega)) (fun _ _ _ => rfl) iN
      have iV1 : cVer m1 (m1 247) := by rw [f247]; exact cVer_cg (fun k _ _ => f1 k (by omega)) (Int.le_refl _) rfl (by omega) (fun _ _ _ => rfl) (fun _ _ _ => rfl) iV
      obtain ⟨m2, g1, g2⟩ := gather_ok (e := e) (d := d + 1) (m := m1) (h := m 247 (794 + 6 * q + 3)) r1 iN1 iV1 (hr _ _) (by rw [f2 3 (by decide), f247]; exact hal)
      rw [f247, f2 3 (by decide), ho] at g2
      have g3 : Gat (m 247) o (m 247 (794 + 6 * q + 3)) m2 := by rw [← f247]; exact GA_Gat (m0 := m1) (by rw [f247]; exact hB) (by rw [f247]; exact g2)
      obtain ⟨G1, G2, G3, G4, G5⟩ := g3
      have r2 : Rng m2 := g2.2.2.2.2.2.2.2
      have k2 : ∀ k, ¬ k = 202 → ¬ k = 203 → m2 k = m1 k := g2.1
      have h247 : m2 247 = m 247 := by rw [k2 247 (by decide) (by decide), f247]
      have h2k : ∀ k, ¬ (202 ≤ k ∧ k ≤ 205) → m2 k = m k := fun k z => by rw [k2 k (by omega) (by omega)]; exact f1 k z
      have iN2 : cNum m2 (m2 247) := by rw [h247]; exact cNum_cg (h2k _ (by omega)) (h2k _ (by omega)) (h2k _ (by omega)) (h2k _ (by omega)) (h2k _ (by omega)) (h2k _ (by omega)) (h2k _ (by omega)) (h2k _ (by omega)) (fun _ _ _ => rfl) iN
      have iS2 : cSto m2 (m2 247) := by rw [h247]; exact cSto_cg (h2k _ (by omega)) rfl (by omega) (fun _ _ _ => rfl) iS
      have ab := L_about (e := e) (d := d) (m := m2) (c := m 247 (794 + 6 * q + 4)) r2 iN2 iS2 (by rw [h247]; intro s s0 s1; rw [h2k (196 + s.toNat) (by omega)]; exact hw s s0 s1) G3 G4 (strt_01 hB) d4.1 d4.2
      rw [h247] at ab
      have hbs := (abt_bs hS (mi := mile (m 247) o (m 247 (794 + 6 * q + 3))) (st := strt (m 247) o (m 247 (794 + 6 * q + 3))) (c := m 247 (794 + 6 * q + 4))).1
      have wab : wr (abt (m 247) (mile (m 247) o (m 247 (794 + 6 * q + 3))) (strt (m 247) o (m 247 (794 + 6 * q + 3))) (m 247 (794 + 6 * q + 4))) = abt (m 247) (mile (m 247) o (m 247 (794 + 6 * q + 3))) (strt (m 247) o (m 247 (794 + 6 * q + 3))) (m 247 (794 + 6 * q + 4)) := wr_of (by omega) (by omega)
      have e8 : m1 8 3 = m 247 4 := by rw [f1 8 (by omega)]; exact bN.2.2.2.2.1.1
      have e8' : m2 8 3 = m 247 4 := by rw [h2k 8 (by omega)]; exact bN.2.2.2.2.1.1
      have c3 : m1 9 (q * 6 + 3) = m 247 (794 + 6 * q + 3) := by rw [f1 9 (by omega)]; exact df 3 (by decide) (by decide)
      have c4 : m2 9 (q * 6 + 4) = m 247 (794 + 6 * q + 4) := by rw [h2k 9 (by omega)]; exact df 4 (by decide) (by decide)
      have c2 : m2 9 (q * 6 + 2) = m 247 (794 + 6 * q + 2) := by rw [h2k 9 (by omega)]; exact df 2 (by decide) (by decide)
      have t3 := get_8 (e := e) (d := d + 2) (m := m1) (i := q) (j := 3) (by omega) (by omega) q0 (by omega) (by decide) (by decide)
      have t4 := get_8 (e := e) (d := d + 2) (m := m2) (i := q) (j := 4) (by omega) (by omega) q0 (by omega) (by decide) (by decide)
      have t2 := get_8 (e := e) (d := d + 2) (m := m2) (i := q) (j := 2) (by omega) (by omega) q0 (by omega) (by decide) (by decide)
      rw [c3] at t3
      rw [c4] at t4
      rw [c2] at t2
      have jr : jrem (m 247 (794 + 6 * q + 3)) 24 = m 247 (794 + 6 * q + 3) % 24 := jrem_n (by omega) (by omega) (by decide) (by decide)
      generalize hA : (if ¬ abt (m 247) (mile (m 247) o (m 247 (794 + 6 * q + 3))) (strt (m 247) o (m 247 (794 + 6 * q + 3))) (m 247 (794 + 6 * q + 4)) = 0 then (1 : Int) else 0) = A
      generalize hNt : (if (20 ≤ m 247 (794 + 6 * q + 3) % 24) ∨ (m 247 (794 + 6 * q + 3) % 24 < 6) then (2 : Int) else 0) = Bn
      generalize hC : (if ¬ m 247 (794 + 6 * q + 2) = (-1) then (4 : Int) else 0) = C
      have bits : ∀ i, 0 ≤ i → i < 3 → jand (jshr (jor (jor A Bn) C) i) 1 = mrk (m 247) o q i := by
        intro i i0 i1
        refine (mk_bits (P := insd (m 247) o q) (Q := ngt (m 247 (794 + 6 * q + 3))) (R := 0 ≤ m 247 (794 + 6 * q + 2)) ?_ ?_ ?_ i0 i1).trans rfl
        · have hm := most_cases hS (mi := mile (m 247) o (m 247 (794 + 6 * q + 3))) (st := strt (m 247) o (m 247 (794 + 6 * q + 3))) (c := m 247 (794 + 6 * q + 4))
          unfold insd
          by_cases z : abt (m 247) (mile (m 247) o (m 247 (794 + 6 * q + 3))) (strt (m 247) o (m 247 (794 + 6 * q + 3))) (m 247 (794 + 6 * q + 4)) = 0
          · rw [if_neg (fun y => y z)] at hA
            exact Or.inr ⟨by have := hm.2.mpr z; omega, hA.symm⟩
          · rw [if_pos z] at hA
            have z2 : ¬ most (m 247) (mile (m 247) o (m 247 (794 + 6 * q + 3))) (strt (m 247) o (m 247 (794 + 6 * q + 3))) (m 247 (794 + 6 * q + 4)) = 0 := fun y => z (hm.2.mp y)
            exact Or.inl ⟨by omega, hA.symm⟩
        · unfold ngt
          by_cases z : (20 ≤ m 247 (794 + 6 * q + 3) % 24) ∨ (m 247 (794 + 6 * q + 3) % 24 < 6)
          · rw [if_pos z] at hNt
            exact Or.inl ⟨z, hNt.symm⟩
          · rw [if_neg z] at hNt
            exact Or.inr ⟨z, hNt.symm⟩
        · by_cases z : m 247 (794 + 6 * q + 2) = -1
          · rw [if_neg (fun y => y z)] at hC
            exact Or.inr ⟨by omega, hC.symm⟩
          · rw [if_pos z] at hC
            exact Or.inl ⟨by omega, hC.symm⟩
      have r3 : Rng (um m2 205 q (jor (jor A Bn) C)) := r2.um wr_jor
      have h3k : ∀ k, ¬ (202 ≤ k ∧ k ≤ 205) → um m2 205 q (jor (jor A Bn) C) k = m k := fun k z => by rw [um_r (by omega)]; exact h2k k z
      have h3247 : um m2 205 q (jor (jor A Bn) C) 247 = m 247 := h3k 247 (by omega)
      have tm := timesOf_ok (e := e) (d := d + 1) (m := um m2 205 q (jor (jor A Bn) C)) (q := q) r3 (by rw [h3247]; exact cNum_cg (h3k _ (by omega)) (h3k _ (by omega)) (h3k _ (by omega)) (h3k _ (by omega)) (h3k _ (by omega)) (h3k _ (by omega)) (h3k _ (by omega)) (h3k _ (by omega)) (fun _ _ _ => rfl) iN) (by rw [h3247]; exact cDee_cg (h3k _ (by omega)) (Int.le_refl _) (Int.le_refl _) rfl (by omega) (fun _ _ _ => rfl) iD) q0 (by rw [h3247]; omega)
      rw [h3247] at tm
      have wt : wr (timS (m 247) q) = timS (m 247) q := by have := timS_b (N := m 247) (q := q); exact wr_of (by omega) (by omega)
      obtain ⟨m4, a1, a2⟩ := ih (q + 1) (um (um m2 205 q (jor (jor A Bn) C)) 204 q (timS (m 247) q)) (.int (iI (m 247 (794 + 6 * q + 3)))) (.int (iI A)) (.int (iI Bn)) (.int (iI C)) (by omega) (by omega) (fun k z => by rw [um_r (by omega)]; exact h3k k z) (fun i z => by rw [um_k (by decide), um_k (by decide), g2.2.1 i z]; exact f2 i z) (fun q' z0 z1 => by
        by_cases hq' : q' = q
        · subst hq'
          refine ⟨um_s, fun i i0 i1 => ?_⟩
          rw [um_k (by decide), um_s]
          exact bits i i0 i1
        · rw [um_i hq', um_k (by decide), um_k (by decide), um_i hq', k2 204 (by decide) (by decide), k2 205 (by decide) (by decide)]
          exact hd q' z0 (by omega)) (r3.um wt)
      refine ⟨m4, ?_, a2⟩
      rw [← a1]
      refine (b_24_2).trans ?_
      have wq : wr q = q := wr_of (by omega) (by omega)
      simp (disch := first | omega | (simp (disch := first | decide | omega) only [um_k, um_e, um_i, uz_k]; omega) | exact cat_i | exact cat_u | exact cat_r | assumption | exact rfl) only [e8, t3, b_24_34, g1, b_24_40, t4, b_24_53, ab, b_24_56, t2, b_24_91, b_24_125, wab, jr, hr _ _, wq, hA, hNt, hC, tm, wr_of, ↓reduceIte, ck_T, lt_T, lt_F, le_T, le_F, eq_T, eq_F, and_true, true_and, and_false, false_and, or_true, true_or, or_false, false_or, and_self, or_self, not_true_eq_false, not_false_eq_true, implies_true, forall_const, true_implies, false_implies, ri_k, rn_k, rr_k, wr_bi, bi_e0, bi_e1, bi_T, bi_F, Classical.not_not, itp, itn, ck_t]
  obtain ⟨m', a1, a2, a3, a4, a5⟩ := this (m 247 4).toNat 0 m (.retAddr 0) (.retAddr 0) (.retAddr 0) (.retAddr 0) (by omega) (by omega) (fun _ _ => rfl) (fun _ _ => rfl) (fun q' _ _ => by omega) hr
  refine ⟨m', by rw [b_24_0]; exact a1, a2, a3, ⟨fun s s0 s1 => ?_, a4⟩, a5⟩
  rw [a2 (196 + s.toNat) (by omega)]
  exact hw s s0 s1
/-- the same walls -/
theorem wayS_cg {a : Int} (a0 : 0 ≤ a) (a1 : a < 100) (hW : ∀ c, 0 ≤ c → c < 100 → (wall N' c ↔ wall N c)) : wayS N' a = wayS N a := by
  have : (fun w => isWay (wall N') a w) = (fun w => isWay (wall N) a w) := funext fun w => propext ⟨isWay_cg a0 a1 hW (fun _ _ _ => rfl), isWay_cg a0 a1 (fun c h0 h1 => (hW c h0 h1).symm) (fun _ _ _ => rfl)⟩
  unfold wayS
  rw [this]
theorem nz_i {i : Int} (h : i = 2 ∨ i = 3 ∨ i = 4 ∨ (254 ≤ i ∧ i < 938)) : nz N i = N i := if_pos h
theorem most_nz (hB : sB N) {mi st c : Int} (c0 : 0 ≤ c) (c1 : c < 100) : most (nz N) mi st c = most N mi st c := by
  unfold most
  rw [nz_i (by omega)]
  refine itr_cg _ _ _ (fun s y s0 s1 => ?_)
  have h2 := hB.2.1
  have hs := hB.2.2 s s0 (by omega)
  have e1 : nz N (254 + 2 * s) = N (254 + 2 * s) := nz_i (by omega)
  have e2 : nz N (254 + 2 * s + 1) = N (254 + 2 * s + 1) := nz_i (by omega)
  unfold wi
  rw [e1, e2, wayS_cg hs.1.1 hs.1.2 (fun c g0 g1 => wall_nz g0 g1)]
theorem timS_nz (b4 : N 4 ≤ 24) {q : Int} (q0 : 0 ≤ q) (q1 : q < N 4) : timS (nz N) q = timS N q := by
  unfold timS
  rw [nz_i (i := 4) (by omega)]
  refine itr_cg _ _ _ (fun z y z0 z1 => ?_)
  rw [nz_i (i := 794 + 6 * z + 0) (by omega), nz_i (i := 794 + 6 * z + 1) (by omega), nz_i (i := 794 + 6 * z + 3) (by omega), nz_i (i := 794 + 6 * q + 0) (by omega), nz_i (i := 794 + 6 * q + 1) (by omega), nz_i (i := 794 + 6 * q + 3) (by omega)]
theorem mrk_nz (hS : sB N) (hB : vB N) (b4 : N 4 ≤ 24) {q i o : Int} (q0 : 0 ≤ q) (q1 : q < N 4) (hc : 0 ≤ N (794 + 6 * q + 4) ∧ N (794 + 6 * q + 4) < 100) : mrk (nz N) o q i = mrk N o q i := by
  have e2 : nz N (794 + 6 * q + 2) = N (794 + 6 * q + 2) := nz_i (by omega)
  have e3 : nz N (794 + 6 * q + 3) = N (794 + 6 * q + 3) := nz_i (by omega)
  have e4 : nz N (794 + 6 * q + 4) = N (794 + 6 * q + 4) := nz_i (by omega)
  unfold mrk insd
  rw [e2, e3, e4, mile_cg hB (nz_i (by omega)) (fun i _ _ => nz_i (by omega)), strt_cg hB (nz_i (by omega)) (fun i _ _ => nz_i (by omega)), most_nz hS hc.1 hc.2]
theorem LawC_iff (hS : sB (m 247)) (hB : vB (m 247)) (b4 : m 247 4 ≤ 24) (iD : cDee m (m 247)) {m' : zMm} : LawC m' (nz (m 247)) ↔ LW (m 247) (-1) m' := by
  unfold LawC LW
  rw [nz_i (i := 2) (by omega), nz_i (i := 4) (by omega)]
  refine and_congr ⟨fun h s s0 s1 => ?_, fun h s s0 s1 => ?_⟩ ⟨fun h q q0 q1 => ?_, fun h q q0 q1 => ?_⟩
  · have hs := hS.2.2 s s0 s1
    have h1 := h s s0 s1
    rw [nz_i (by have := hS.2.1; omega)] at h1
    exact isWay_cg hs.1.1 hs.1.2 (fun c g0 g1 => wall_nz g0 g1) (fun _ _ _ => rfl) h1
  · have hs := hS.2.2 s s0 s1
    rw [nz_i (by have := hS.2.1; omega)]
    exact isWay_cg hs.1.1 hs.1.2 (fun c g0 g1 => (wall_nz g0 g1).symm) (fun _ _ _ => rfl) (h s s0 s1)
  · have dq := iD q q0 q1
    unfold dRow at dq
    have h1 := h q q0 q1
    rw [timS_nz b4 q0 q1] at h1
    refine ⟨h1.1, fun i i0 i1 => ?_⟩
    rw [h1.2 i i0 i1, mrk_nz hS hB b4 q0 q1 dq.2.2.2.2.2.1]
  · have dq := iD q q0 q1
    unfold dRow at dq
    have h1 := h q q0 q1
    rw [timS_nz b4 q0 q1]
    refine ⟨h1.1, fun i i0 i1 => ?_⟩
    rw [h1.2 i i0 i1, mrk_nz hS hB b4 q0 q1 dq.2.2.2.2.2.1]
/-- the class's own cells of the law -/
def lwk (k : Nat) : Prop := k = 193 ∨ (196 ≤ k ∧ k ≤ 205)
theorem Inv_law {m' : zMm} (hI : Inv m) (hr' : Rng m') (h : ∀ k, ¬ lwk k → m' k = m k) (hL : LawOK m') : Inv m' := by
  obtain ⟨hr, ⟨iN, iG, iP, iH, iS, iD, iT, iO, iU, iR, iV⟩, iK, iL, iF, iB, iA, iW, iX⟩ := id hI
  have bN := iN
  unfold cNum at bN
  have hC : Core m (m 247) := ⟨iN, iG, iP, iH, iS, iD, iT, iO, iU, iR, iV⟩
  have f : ∀ k, ¬ (k = 193 ∨ (196 ≤ k ∧ k ≤ 205)) → m' k = m k := h
  have f0 := f 0 (by omega)
  have f246 := f 246 (by omega)
  have f247 := f 247 (by omega)
  have f248 := f 248 (by omega)
  refine ⟨hr', ?_, ?_, hL, ?_, ?_, ?_, ?_, ?_⟩
  · exact Core_cg (fun k _ _ => f k (by omega)) (fun i _ _ => by rw [f247]) hC
  · unfold Kept at *
    rw [f0, f246, f248]
    exact ⟨iK.1, iK.2.imp id (fun q => ⟨q.1, Core_cg (F := fun k => m (k + 89)) (F' := fun k => m' (k + 89)) (fun k _ _ => f (k + 89) (by omega)) (fun _ _ _ => rfl) q.2⟩)⟩
  · exact RefOK_cg (by rw [f246]) (by rw [f246]) (by rw [f246]) (f 254 (by omega)) (by rw [f247]) iF
  · unfold beside at *
    rw [f 192 (by omega)]
    exact iB
  · unfold Tape at *
    rw [f246, f 179 (by omega), f 180 (by omega), f 249 (by omega)]
    exact iA
  · unfold Rows at *
    rw [f246, f 230 (by omega), f 226 (by omega), f 232 (by omega), f 231 (by omega), f 250 (by omega), f 233 (by omega), f 251 (by omega)]
    exact iW
  · exact Host_cg (fun k _ _ => f k (by omega)) (by rw [f 234 (by omega)]) (by rw [f246]) (fun k _ _ => f k (by omega)) iX
/-- as at an hour -/
def AS (N : Int → Int) (h : Int) (m m' : zMm) : Prop := (∀ k, ¬ lwk k → m' k = m k) ∧ Rng m' ∧ m' 202 3 = -3 ∧ m' 202 2 = 0 ∧ LW N (-1) m' ∧ Gat N (-1) h m'
theorem AS_Inv {h : Int} {m' : zMm} (hI : Inv m) (a : AS (m 247) h m m') : Inv m' := by
  obtain ⟨hr, ⟨iN, iG, iP, iH, iS, iD, iT, iO, iU, iR, iV⟩, iK, iL, iF, iB, iA, iW, iX⟩ := id hI
  have bN := iN
  unfold cNum at bN
  obtain ⟨a1, a2, a3, a4, a5, a6⟩ := a
  refine Inv_law hI a2 a1 ⟨a3, Or.inr ⟨a4, ?_⟩⟩
  have : m' 247 = m 247 := a1 247 (by unfold lwk; omega)
  rw [this]
  exact (LawC_iff (sB_of iN iS) (vB_of iN iV) (by omega) iD).mpr a5
theorem asAt_ok {h : Int} (hI : Inv m) (hh : wr h = h) : ∃ m', Z e (d + 4) 19 0 [.ref 202, .int (iI h)] [] m = rn m' ∧ AS (m 247) h m m' := by
  obtain ⟨hr, ⟨iN, iG, iP, iH, iS, iD, iT, iO, iU, iR, iV⟩, iK, iL, iF, iB, iA, iW, iX⟩ := id hI
  have bN := iN
  unfold cNum at bN
  have hB := vB_of iN iV
  have hS := sB_of iN iS
  have fin : ∀ m1 : zMm, (∀ k, ¬ lwk k → m1 k = m k) → Rng m1 → m1 202 3 = -3 → m1 202 2 = 0 → LW (m 247) (-1) m1 → ∃ m', Z e (d + 4) 19 23 [.ref 202, .int (iI h)] [] m1 = rn m' ∧ AS (m 247) h m m' := by
    intro m1 f r1 a3 a2 lw
    have f' : ∀ k, ¬ (k = 193 ∨ (196 ≤ k ∧ k ≤ 205)) → m1 k = m k := f
    have f247 := f' 247 (by omega)
    obtain ⟨m2, g1, g2⟩ := gather_ok (e := e) (d := d + 2) (m := m1) (h := h) r1 (by rw [f247]; exact cNum_cg (f' _ (by omega)) (f' _ (by omega)) (f' _ (by omega)) (f' _ (by omega)) (f' _ (by omega)) (f' _ (by omega)) (f' _ (by omega)) (f' _ (by omega)) (fun _ _ _ => rfl) iN) (by rw [f247]; exact cVer_cg (fun k _ _ => f' k (by omega)) (Int.le_refl _) rfl (by omega) (fun _ _ _ => rfl) (fun _ _ _ => rfl) iV) hh (Or.inl a3)
    rw [a3] at g2
    have g3 : Gat (m 247) (-1) h m2 := by rw [← f247]; exact GA_Gat (m0 := m1) (by rw [f247]; exact hB) g2
    refine ⟨m2, by rw [b_19_23, g1, rn_k, b_19_28], fun k z => by unfold lwk at z; rw [g2.1 k (by omega) (by omega)]; exact f' k z, g2.2.2.2.2.2.2.2, by rw [g2.2.1 3 (by decide)]; exact a3, by rw [g2.2.1 2 (by decide)]; exact a2, ?_, g3⟩
    refine ⟨fun s s0 s1 => by rw [g2.1 (196 + s.toNat) (by omega) (by omega)]; exact lw.1 s s0 s1, fun q q0 q1 => ?_⟩
    rw [g2.1 204 (by decide) (by decide), g2.1 205 (by decide) (by decide)]
    exact lw.2 q q0 q1
  by_cases hs : m 202 2 = 0
  · obtain ⟨m2, a1, a2⟩ := fin m (fun _ _ => rfl) hr iL.1 hs ((LawC_iff hS hB (by omega) iD).mp (by
      rcases iL.2 with z | z
      · omega
      · exact z.2))
    refine ⟨m2, ?_, a2⟩
    rw [← a1, b_19_0]
    simp (disch := first | omega | (simp (disch := first | decide | omega) only [um_k, um_e, um_i, uz_k]; omega) | exact cat_i | exact cat_u | exact cat_r | assumption | exact rfl) only [hs, wr_of, ↓reduceIte, ck_T, lt_T, lt_F, le_T, le_F, eq_T, eq_F, and_true, true_and, and_false, false_and, or_true, true_or, or_false, false_or, and_self, or_self, not_true_eq_false, not_false_eq_true, implies_true, forall_const, true_implies, false_implies, ri_k, rn_k, rr_k, wr_bi, bi_e0, bi_e1, bi_T, bi_F, Classical.not_not, itp, itn, ck_t]
  · have hs1 : m 202 2 = 1 := by
      rcases iL.2 with z | z
      · exact z
      · exact absurd z.1 hs
    have r0 : Rng (um m 202 2 0) := hr.um rfl
    have u : ∀ k, ¬ k = 202 → um m 202 2 0 k = m k := fun k z => um_r z
    have u247 := u 247 (by decide)
    obtain ⟨m1, b1, b2, b3, b4⟩ := mapStones_ok (e := e) (d := d + 1) (m := um m 202 2 0) r0 (by rw [u247]; exact cNum_cg (u _ (by decide)) (u _ (by decide)) (u _ (by decide)) (u _ (by decide)) (u _ (by decide)) (u _ (by decide)) (u _ (by decide)) (u _ (by decide)) (fun _ _ _ => rfl) iN) (by rw [u247]; exact cGnd_cg (u _ (by decide)) (fun _ _ _ => rfl) iG) (by rw [u247]; exact cSto_cg (u _ (by decide)) rfl (by omega) (fun _ _ _ => rfl) iS) (beside_cg (u 192 (by decide)) iB)
    rw [u247] at b2
    have f1 : ∀ k, ¬ (196 ≤ k ∧ k < 202) → ¬ k = 193 → ¬ k = 202 → m1 k = m k := fun k z1 z2 z3 => by rw [b4 k z1 z2]; exact u k z3
    have f247 : m1 247 = m 247 := f1 247 (by omega) (by decide) (by decide)
    have c3 : m1 202 3 = -3 := by rw [b4 202 (by omega) (by decide), um_i (by decide)]; exact iL.1
    obtain ⟨m2, c1, c2, c4, c5, c6⟩ := learn_ok (e := e) (d := d) (m := m1) (o := -1) b3 (by rw [f247]; exact cNum_cg (f1 _ (by omega) (by decide) (by decide)) (f1 _ (by omega) (by decide) (by decide)) (f1 _ (by omega) (by decide) (by decide)) (f1 _ (by omega) (by decide) (by decide)) (f1 _ (by omega) (by decide) (by decide)) (f1 _ (by omega) (by decide) (by decide)) (f1 _ (by omega) (by decide) (by decide)) (f1 _ (by omega) (by decide) (by decide)) (fun _ _ _ => rfl) iN) (by rw [f247]; exact cSto_cg (f1 _ (by omega) (by decide) (by decide)) rfl (by omega) (fun _ _ _ => rfl) iS) (by rw [f247]; exact cDee_cg (f1 _ (by omega) (by decide) (by decide)) (Int.le_refl _) (Int.le_refl _) rfl (by omega) (fun _ _ _ => rfl) iD) (by rw [f247]; exact cVer_cg (fun k _ _ => f1 k (by omega) (by omega) (by omega)) (Int.le_refl _) rfl (by omega) (fun _ _ _ => rfl) (fun _ _ _ => rfl) iV) (by rw [f247]; exact b2) (Or.inl c3) (by rw [c3]; rfl)
    rw [f247] at c5
    obtain ⟨m3, a1, a2⟩ := fin m2 (fun k z => by unfold lwk at z; rw [c2 k (by omega)]; exact f1 k (by omega) (by omega) (by omega)) c6 (by rw [c4 3 (by decide)]; exact c3) (by rw [c4 2 (by decide), b4 202 (by omega) (by decide)]; exact um_s) c5
    refine ⟨m3, ?_, a2⟩
    rw [← a1, b_19_0]
    simp (disch := first | omega | (simp (disch := first | decide | omega) only [um_k, um_e, um_i, uz_k]; omega) | exact cat_i | exact cat_u | exact cat_r | assumption | exact rfl) only [hs1, b1, b_19_19, c1, wr_of, ↓reduceIte, ck_T, lt_T, lt_F, le_T, le_F, eq_T, eq_F, and_true, true_and, and_false, false_and, or_true, true_or, or_false, false_or, and_self, or_self, not_true_eq_false, not_false_eq_true, implies_true, forall_const, true_implies, false_implies, ri_k, rn_k, rr_k, wr_bi, bi_e0, bi_e1, bi_T, bi_F, Classical.not_not, itp, itn, ck_t]
end AA
