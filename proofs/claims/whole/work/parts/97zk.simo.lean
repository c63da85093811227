/-! Reading: NOTs, and what stands behind them. -/
section SK
variable {e : List Int32 × Value} {d d' : Nat} {m mm : zMm} {T B : Int → Int} {L : Int} {n i : Nat} {c c' l K H : Int}
theorem sim_nots {x1 : Int} {u2 : Value} (hv : e.2 = .null ∨ e.2 = .ref 10301) (tb : TB T B L) : ∀ (N : Nat) (i : Nat) (k : Int) (m mm : zMm), n - i ≤ N → 0 ≤ k → k ≤ i → CS T L n i c l m → MS B L i c' mm → ∃ (r : Nat) (m' mm' : zMm), Z e (d + 2) 84 4 [.ref 179, .int (iI x1), .int (iI (k % 2)), .int (iI k)] [] m = Z e (d + 2) 84 37 [.ref 179, .int (iI x1), .int (iI ((k + r) % 2)), .int (iI (k + r))] [] m' ∧ Z e (d' + 5) 237 2 [.ref 246, .int (iI k), u2] [] mm = Z e (d' + 5) 237 21 [.ref 246, .int (iI (k + r)), u2] [] mm' ∧ CS T L n (i + r) c l m' ∧ MS B L (i + r) c' mm' ∧ CF l c m m' ∧ MF c' mm mm' ∧ mm' 246 19 = mm 246 19 ∧ tS B L i + 3 * r ≤ tS B L (i + r) := by
  have no : ∀ (i : Nat) (k : Int) (m mm : zMm), 0 ≤ k → k ≤ i → CS T L n i c l m → MS B L i c' mm → ¬ cW T L (tS T L i) = 14 → ∃ (r : Nat) (m' mm' : zMm), Z e (d + 2) 84 4 [.ref 179, .int (iI x1), .int (iI (k % 2)), .int (iI k)] [] m = Z e (d + 2) 84 37 [.ref 179, .int (iI x1), .int (iI ((k + r) % 2)), .int (iI (k + r))] [] m' ∧ Z e (d' + 5) 237 2 [.ref 246, .int (iI k), u2] [] mm = Z e (d' + 5) 237 21 [.ref 246, .int (iI (k + r)), u2] [] mm' ∧ CS T L n (i + r) c l m' ∧ MS B L (i + r) c' mm' ∧ CF l c m m' ∧ MF c' mm mm' ∧ mm' 246 19 = mm 246 19 ∧ tS B L i + 3 * r ≤ tS B L (i + r) := by
    intro i k m mm k0 k1 h hm q
    have nn := h.1.1.2.2.1
    have n3 := h.1.1.2.2.2.1
    refine ⟨0, m, mm, ?_, ?_, h, hm, CF.refl, MF.refl, rfl, ?_⟩
    · rw [show k + ((0 : Nat) : Int) = k by omega]
      refine (b_84_4).trans ?_
      rw [wr_of (x := k) (by omega) (by omega), itp (by omega), h.1.pass0 (by decide) (by decide) q, ri_k, b_84_18, show wr 0 = 0 from rfl, itn (fun z => z rfl)]
    · rw [show k + ((0 : Nat) : Int) = k by omega]
      refine (b_237_2).trans ?_
      rw [hm.1.name (x := 14) hv hm.2.1 tb (by decide) (by decide) nm_txt.2.2.2.2.2.2.2.2.1 (by decide) (by decide), bi_f q, ri_k, b_237_8, show wr 0 = 0 from rfl, itn (fun z => z rfl)]
    · show tS B L i + 3 * ((0 : Nat) : Int) ≤ tS B L i
      omega
  intro N
  induction N with
  | zero =>
    intro i k m mm hN k0 k1 h hm
    refine no i k m mm k0 k1 h hm (fun q => ?_)
    have := h.1.lt (by omega)
    omega
  | succ N ih =>
    intro i k m mm hN k0 k1 h hm
    by_cases q : cW T L (tS T L i) = 14
    · have nn := h.1.1.2.2.1
      have n3 := h.1.1.2.2.2.1
      have ps := h.1.pass (e := e) (d := d) (x := 14) h.2.1 (by decide) (by decide) q
      obtain ⟨m1, e1, _, b2, b3⟩ := h.adv (e := e) (d := d) ps.2
      obtain ⟨mm1, f1, f2, f3⟩ := hm.next (e := e) (d := d' + 2) tb.1.1 tb.1.2
      have w := tb.wl (i := i) (x := 14) (by decide) (by decide) q wl_v.2.2.1
      have t := tS_n (B := B) tb.1.1 i
      obtain ⟨r, m', mm', g1, g2, g3, g4, g5, g6, g7, g8⟩ := ih (i + 1) (k + 1) m1 mm1 (by omega) (by omega) (by omega) b2 f2
      refine ⟨r + 1, m', mm', ?_, ?_, ?_, ?_, b3.trans g5 (Int.le_refl _), (MF.fx f3).trans g6 (Int.le_refl _), by rw [g7, f3.2.1 19 (by decide)], ?_⟩
      · rw [show k + ((r + 1 : Nat) : Int) = k + 1 + (r : Int) by omega]
        refine Eq.trans ?_ g1
        refine (b_84_4).trans ?_
        rw [wr_of (x := k) (by omega) (by omega), itp (by omega), ps.1, ← e1, ri_k, b_84_18, show wr 1 = 1 from rfl, itp (by decide), wr_of (x := k % 2) (by omega) (by omega), show (if k % 2 = 0 then (1 : Int) else 0) = (k + 1) % 2 by by_cases z : k % 2 = 0 <;> simp only [z, if_true, if_false] <;> omega]
      · rw [show k + ((r + 1 : Nat) : Int) = k + 1 + (r : Int) by omega]
        refine Eq.trans ?_ g2
        refine (b_237_2).trans ?_
        rw [hm.1.name (x := 14) hv hm.2.1 tb (by decide) (by decide) nm_txt.2.2.2.2.2.2.2.2.1 (by decide) (by decide), bi_t q, ri_k, b_237_8, show wr 1 = 1 from rfl, itp (by decide), f1, rn_k, b_237_15]
      · rw [show i + (r + 1) = i + 1 + r by omega]; exact g3
      · rw [show i + (r + 1) = i + 1 + r by omega]; exact g4
      · rw [show i + (r + 1) = i + 1 + r by omega]
        have u : tokE B L (tS B L i) ≤ tS B L (i + 1) := t.2.1
        omega
    · exact no i k m mm k0 k1 h hm q
/-- the reference's NOTs after a fault -/
theorem RX.tail {s y : Int} (h : RX s m) (hr : Rng m) (y1 : y ≤ 300) : ∀ (N : Nat) (k : Int), k + N = y → 0 ≤ k → Z e (d + 1) 237 223 [.ref 246, .int (iI y), .int (iI k)] [] m = rn m := by
  intro N
  induction N with
  | zero =>
    intro k hk k0
    refine (b_237_223).trans ?_
    rw [wr_of (x := k) (by omega) (by omega), wr_of (x := y) (by omega) (by omega), itn (by omega)]
  | succ N ih =>
    intro k hk k0
    refine (b_237_223).trans ?_
    rw [wr_of (x := k) (by omega) (by omega), wr_of (x := y) (by omega) (by omega), itp (by omega), h.codes hr, rn_k, b_237_235]
    exact ih (k + 1) (by omega) (by omega)
/-- the reference's NOTs -/
theorem ref_nots {C : Int → Int} {y o c1 c1' : Int} {j : Nat} (c0 : 0 ≤ c') (cc : c' ≤ c1') (cy : c1' + y ≤ 120) (y1 : y ≤ 300) (hH : H ≤ 119) : ∀ (N : Nat) (q : Int) (fl : Bool) (mm1 : zMm), q + N = y → 0 ≤ q → MS B L j (c1' + q) mm1 → MF c' mm mm1 → mm1 246 19 = o → semF fl K H C c c1 (mm1 256) c' (c1' + q) → (fl = true ↔ q % 2 = 1) → ∃ (mm' : zMm) (fl' : Bool), Z e (d + 1) 237 223 [.ref 246, .int (iI y), .int (iI q)] [] mm1 = rn mm' ∧ MS B L j (c1' + y) mm' ∧ MF c' mm mm' ∧ mm' 246 19 = o ∧ semF fl' K H C c c1 (mm' 256) c' (c1' + y) ∧ (fl' = true ↔ y % 2 = 1) := by
  intro N
  induction N with
  | zero =>
    intro q fl mm1 hq q0 a1 a2 a3 a4 a5
    have : q = y := by omega
    subst this
    refine ⟨mm1, fl, ?_, a1, a2, a3, a4, a5⟩
    refine (b_237_223).trans ?_
    rw [itn (by omega)]
  | succ N ih =>
    intro q fl mm1 hq q0 a1 a2 a3 a4 a5
    obtain ⟨mm2, k1, k2, k3, k4, k5⟩ := a1.code (e := e) (d := d) (x := 4000) (by omega) (by omega) rfl
    have s1 : semF fl K H C c c1 (mm2 256) c' (c1' + q) := semF_cg a4 (fun _ _ _ => rfl) (fun p _ hp => k3.2.2 p hp)
    have s2 := semF_rnot s1 hH (by omega) k4
    obtain ⟨mm', fl', g1, g2⟩ := ih (q + 1) (!fl) mm2 (by omega) (by omega) (by rw [← Int.add_assoc]; exact k2) (a2.trans k3 (by omega)) (by rw [k5]; exact a3) (by rw [← Int.add_assoc]; exact s2) (by
      cases fl
      · have : ¬ q % 2 = 1 := fun z => absurd (a5.mpr z) (by decide)
        exact ⟨fun _ => by omega, fun _ => rfl⟩
      · have : q % 2 = 1 := a5.mp rfl
        exact ⟨fun z => absurd z (by decide), fun _ => by omega⟩)
    refine ⟨mm', fl', ?_, g2⟩
    refine (b_237_223).trans ?_
    rw [wr_of (x := q) (by omega) (by omega), wr_of (x := y) (by omega) (by omega), itp (by omega), k1, rn_k, b_237_235]
    exact g1
theorem RR.ckk (h : RR B L i m) (hr : Rng m) (tb : TB T B L) : (wr (m 246 18) = 0) → ((wr (m 246 17) = 3) → (0 ≤ wr (m 246 15) ∧ wr (m 246 15) < 300)) := by
  intro _ k
  rw [hr 246 17] at k
  rw [hr 246 15]
  have b := h.b tb.1.1
  have l1 := tb.1.2
  rcases b.2 with z | z
  · exfalso
    rw [h.2.2.1] at k
    unfold tokK at k
    rw [cif_t (by rw [← h.1]; exact z)] at k
    omega
  · omega
theorem MS.u19 {x : Int} (h : MS B L i c' m) (hx : wr x = x) : MS B L i c' (um m 246 19 x) := by
  obtain ⟨⟨a1, a2, a3, a4, a5, a6⟩, h2, h3⟩ := h
  refine ⟨⟨?_, ?_, ?_, ?_, ?_, ?_⟩, h2.um hx, ?_⟩
  · rw [um_i (by decide)]; exact a1
  · rw [um_i (by decide)]; exact a2
  · rw [um_i (by decide)]; exact a3
  · rw [um_i (by decide)]; exact a4
  · rw [um_r (by decide)]; exact a5
  · rw [um_i (by decide)]; exact a6
  · rw [um_i (by decide)]; exact h3
theorem RX.u19 {s x : Int} (h : RX s m) : RX s (um m 246 19 x) := ⟨by rw [um_i (by decide)]; exact h.1, by rw [um_i (by decide)]; exact h.2⟩
theorem RX.ckk {s : Int} (h : RX s m) (hr : Rng m) {Q : Prop} : (wr (m 246 18) = 0) → Q := by
  intro k
  rw [hr 246 18, h.2] at k
  exact absurd k (by decide)
/-- what parseCondition and either do at word i -/
def SE (e : List Int32 × Value) (T B : Int → Int) (L : Int) (o K H : Int) (D D' : Nat) : Prop := ∀ (n i : Nat) (c c' l : Int) (m mm : zMm), CS T L n i c l m → MS B L i c' mm → 0 ≤ c → c ≤ c' → 3 * c' ≤ tS B L i → 1 ≤ l → l ≤ 10 → mm 246 19 = o → SIMa T B L n i c c' l K H m mm (fun v m' => Z e D 82 0 [.ref 179, .int (iI o), .retAddr 0] [] m = ri v m') (fun mm' => Z e D' 235 0 [.ref 246] [] mm = rn mm')
def SA (e : List Int32 × Value) (T B : Int → Int) (L : Int) (o K H : Int) (D D' : Nat) : Prop := ∀ (n i : Nat) (c c' l : Int) (m mm : zMm), CS T L n i c l m → MS B L i c' mm → 0 ≤ c → c ≤ c' → 3 * c' ≤ tS B L i → 1 ≤ l → l ≤ 10 → mm 246 19 = o → SIMa T B L n i c c' l K H m mm (fun v m' => Z e D 83 0 [.ref 179, .int (iI o), .retAddr 0] [] m = ri v m') (fun mm' => Z e D' 236 0 [.ref 246] [] mm = rn mm')
def SO (e : List Int32 × Value) (T B : Int → Int) (L : Int) (o K H : Int) (D D' : Nat) : Prop := ∀ (n i : Nat) (c c' l : Int) (m mm : zMm), CS T L n i c l m → MS B L i c' mm → 0 ≤ c → c ≤ c' → 3 * c' ≤ tS B L i → 1 ≤ l → l ≤ 10 → mm 246 19 = o → SIMa T B L n i c c' l K H m mm (fun v m' => Z e D 84 0 [.ref 179, .int (iI o), .retAddr 0, .retAddr 0] [] m = ri v m') (fun mm' => Z e D' 237 0 [.ref 246, .retAddr 0, .retAddr 0] [] mm = rn mm')
theorem sim_open {o y : Int} {u2 : Value} (tb : TB T B L) (o0 : 0 ≤ o) (o1 : o ≤ 4) (hE : o < 4 → SE e T B L (o + 1) K H (d + 1) (d' + 7)) (h : CS T L n i c l m) (hm : MS B L i c' mm) (c0 : 0 ≤ c) (cc : c ≤ c') (c3 : 3 * c' ≤ tS B L i) (l0 : 1 ≤ l) (l1 : l ≤ 10) (h19 : mm 246 19 = o) (hx : cW T L (tS T L i) = 30) : SIMa T B L n i c c' l K H m mm (fun v m' => Z e (d + 2) 85 0 [.ref 179, .int (iI o)] [] m = ri v m') (fun mm' => Z e (d' + 8) 237 21 [.ref 246, .int (iI y), u2] [] mm = Z e (d' + 8) 237 223 [.ref 246, .int (iI y), .int (iI 0)] [] mm') := by
  have sg := hm.1.sign (x := 30) (c := 40) tb (by decide) (by decide) wtx_p.2.1 (by decide)
  have start : Z e (d' + 8) 237 21 [.ref 246, .int (iI y), u2] [] mm = _ := b_237_21
  have hr := hm.2.1
  have wo : wr o = o := wr_of (by omega) (by omega)
  rw [ck_t (hm.1.ckk hr tb), hr 246 18, hr 246 17, hr 246 15, hr 249 _, show wr 40 = 40 from rfl, itp (sg.mpr hx), um_s, h19, wr_of (x := o + 1) (by omega) (by omega)] at start
  have hm0 : MS B L i c' (um mm 246 19 (o + 1)) := hm.u19 (wr_of (by omega) (by omega))
  have cst : Z e (d + 2) 85 0 [.ref 179, .int (iI o)] [] m = _ := b_85_0
  rw [wo] at cst
  have w1 := tb.wl (i := i) (x := 30) (by decide) (by decide) hx wl_v.2.2.2.2.1
  have t := tS_n (B := B) tb.1.1 i
  by_cases q : o < 4
  · rw [itp (by omega)] at start
    rw [itn (by omega)] at cst
    obtain ⟨m1, _, a1, a2, a3⟩ := h.adv (e := e) (d := d + 1) (h.1.lt (by omega))
    obtain ⟨mm1, b1, b2, b3⟩ := hm0.need1 (e := e) (d := d' + 4) tb.1.1 tb.1.2
    have x19 : mm1 246 19 = o + 1 := by rw [b3.2.1 19 (by decide), um_s]
    have mf1 : MF c' mm mm1 := (MF.u19 _).trans (MF.fx b3) (Int.le_refl _)
    rw [b1, rn_k, b_237_57] at start
    rw [a1, rn_k, b_85_11] at cst
    rcases hE q n (i + 1) c c' l m1 mm1 a2 b2 c0 cc (by omega) l0 l1 x19 with ⟨j, m2, mm2, f1, f2, f3, k1, k1', g1, g2, g3, g4, g5, g6, g7, g8, g9, g10⟩ | ⟨j, m2, mm2, f1, f2, ⟨g1, g2, g3, g4, g5, g6⟩, g7⟩
    · rw [f1, ri_k, b_85_18, show wr 1 = 1 from rfl, itp (by decide)] at cst
      have sg2 := g2.1.sign (x := 31) (c := 41) tb (by decide) (by decide) wtx_p.2.2 (by decide)
      rw [f2, rn_k, b_237_61, ck_t (g2.1.ckk g2.2.1 tb), g2.2.1 246 18, g2.2.1 246 17, g2.2.1 246 15, g2.2.1 249 _, show wr 41 = 41 from rfl] at start
      by_cases q2 : cW T L (tS T L j) = 31
      · have ps := g1.1.pass (e := e) (d := d) (x := 31) g1.2.1 (by decide) (by decide) q2
        obtain ⟨m3, e3, _, p2, p3⟩ := g1.adv (e := e) (d := d) ps.2
        obtain ⟨mm3, r1, r2, r3⟩ := g2.need1 (e := e) (d := d' + 4) tb.1.1 tb.1.2
        have y19 : mm3 246 19 = o + 1 := by rw [r3.2.1 19 (by decide), g9, x19]
        rw [ps.1, ← e3, ri_k, b_85_28, show wr 1 = 1 from rfl, itp (by decide)] at cst
        rw [itp (sg2.mpr q2), r1, rn_k, b_237_71, y19, show o + 1 - 1 = o by omega] at start
        refine Or.inl ⟨j + 1, m3, _, cst, start, by omega, k1, k1', p2, r2.u19 wo, (a3.trans g3 (Int.le_refl _)).trans p3 (by omega), ((mf1.trans g4 (Int.le_refl _)).trans (MF.fx (c := c') r3) (Int.le_refl _)).trans (MF.u19 _) (Int.le_refl _), g5, g6, ?_, ?_, ?_, ?_⟩
        · show 3 * (k1' - c') + 2 ≤ tokE B L (tS B L j) - tS B L i
          have t2 := tS_n (B := B) tb.1.1 (j - 1)
          rw [show j - 1 + 1 = j by omega] at t2
          have t3 := tS_n (B := B) tb.1.1 j
          omega
        · rw [e3, um_k (by decide), um_k (by decide)]; exact g8
        · rw [um_s]; exact h19.symm
        · rw [e3, um_r (by decide), um_r (by decide), um_r (by decide), r3.1 256 (by decide)]; exact g10
      · obtain ⟨mm3, r1, r2, r3, r4, r5⟩ := g2.need0 (e := e) (d := d' + 4)
        have y19 : mm3 246 19 = o + 1 := by rw [r5, g9, x19]
        rw [g1.1.pass0 (by decide) (by decide) q2, ri_k, b_85_28, show wr 0 = 0 from rfl, itn (fun z => z rfl)] at cst
        rw [itn (fun z => q2 (sg2.mp z)), r1, rn_k, b_237_71, y19, show o + 1 - 1 = o by omega] at start
        refine Or.inr ⟨j, m2, _, cst, start, ⟨g1.1, g1.2.1, a3.trans g3 (Int.le_refl _), r2.u19, r3.um wo, ((mf1.trans g4 (Int.le_refl _)).trans r4 (by omega)).trans (MF.u19 (c := c') _) (Int.le_refl _)⟩, ?_⟩
        rw [um_s]; exact h19.symm
    · have y19 : mm2 246 19 = o + 1 := by rw [g7, x19]
      rw [f1, ri_k, b_85_18, show wr 0 = 0 from rfl, itn (fun z => z rfl)] at cst
      rw [f2, rn_k, b_237_61, ck_t (g4.ckk g5), g4.need g5, rn_k, b_237_71, y19, show o + 1 - 1 = o by omega] at start
      refine Or.inr ⟨j, m2, _, cst, start, ⟨g1, g2, a3.trans g3 (Int.le_refl _), g4.u19, g5.um wo, (mf1.trans g6 (Int.le_refl _)).trans (MF.u19 _) (Int.le_refl _)⟩, ?_⟩
      rw [um_s]; exact h19.symm
  · obtain ⟨mm1, b1, b2, b3, b4, b5⟩ := hm0.need0 (e := e) (d := d' + 4)
    have x19 : mm1 246 19 = o + 1 := by rw [b5, um_s]
    rw [itn (by omega), b1, rn_k, b_237_57, b2.either b3, rn_k, b_237_61, ck_t (b2.ckk b3), b2.need b3, rn_k, b_237_71, x19, show o + 1 - 1 = o by omega] at start
    rw [itp (by omega)] at cst
    refine Or.inr ⟨i, m, _, cst, start, ⟨h.1, h.2.1, CF.refl, b2.u19, b3.um wo, ((MF.u19 _).trans b4 (Int.le_refl _)).trans (MF.u19 _) (Int.le_refl _)⟩, ?_⟩
    rw [um_s]; exact h19.symm
theorem sim_one {o : Int} (hv : e.2 = .null ∨ e.2 = .ref 10301) (tb : TB T B L) (o0 : 0 ≤ o) (o1 : o ≤ 4) (hK : K ≤ 536870912) (hH : H ≤ 119) (hE : o < 4 → SE e T B L (o + 1) K H (d + 1) (d' + 7)) : SO e T B L o K H (d + 3) (d' + 8) := by
  intro n i c c' l m mm h hm c0 cc c3 l0 l1 h19
  obtain ⟨r, m1, mm1, a1, a2, a3, a4, a5, a6, a7, a8⟩ := sim_nots (e := e) (d := d + 1) (d' := d' + 3) (x1 := o) (u2 := .retAddr 0) hv tb (n - i) i 0 m mm (Nat.le_refl _) (Int.le_refl _) (by omega) h hm
  obtain ⟨y, hy⟩ : ∃ y : Int, (r : Int) = y := ⟨_, rfl⟩
  have y0 : 0 ≤ y := by omega
  rw [hy] at a1 a2 a8
  rw [show (0 : Int) + y = y by omega] at a1 a2
  rw [show (0 : Int) % 2 = 0 from rfl] at a1
  have nn := a3.1.1.2.2.1
  have n3 := a3.1.1.2.2.2.1
  have st1 : Z e (d + 3) 84 0 [.ref 179, .int (iI o), .retAddr 0, .retAddr 0] [] m = _ := (b_84_0).trans a1
  have st2 : Z e (d' + 8) 237 0 [.ref 246, .retAddr 0, .retAddr 0] [] mm = _ := (b_237_0).trans a2
  have tr := tS_b (T := B) tb.1.1 (i + r)
  have core : SIMa T B L n (i + r) c c' l K H m1 mm1 (fun v m' => Z e (d + 3) 84 37 [.ref 179, .int (iI o), .int (iI (y % 2)), .int (iI y)] [] m1 = Z e (d + 3) 84 59 [.ref 179, .int (iI o), .int (iI (y % 2)), .int (iI y)] [.int (iI v)] m') (fun mm' => Z e (d' + 8) 237 21 [.ref 246, .int (iI y), .retAddr 0] [] mm1 = Z e (d' + 8) 237 223 [.ref 246, .int (iI y), .int (iI 0)] [] mm') := by
    have cst : Z e (d + 3) 84 37 [.ref 179, .int (iI o), .int (iI (y % 2)), .int (iI y)] [] m1 = _ := b_84_37 a3.1.word
    by_cases q : cW T L (tS T L (i + r)) = 30
    · rw [itp (by rw [a3.1.1.2.1]; exact q)] at cst
      rcases sim_open (e := e) (d := d) (d' := d') (y := y) (u2 := .retAddr 0) tb o0 o1 hE a3 a4 c0 cc (by omega) l0 l1 (by rw [a7]; exact h19) q with ⟨j, m', mm', f1, f2, f3⟩ | ⟨j, m', mm', f1, f2, f3⟩
      · rw [f1, ri_k, b_84_52] at cst
        exact Or.inl ⟨j, m', mm', cst, f2, f3⟩
      · rw [f1, ri_k, b_84_52] at cst
        exact Or.inr ⟨j, m', mm', cst, f2, f3⟩
    · rw [itn (by rw [a3.1.1.2.1]; exact q)] at cst
      rcases sim_fact (e := e) (d := d) (d' := d' + 3) (y := y) (u2 := .retAddr 0) hv tb a3 a4 c0 cc (by omega) l0 l1 hK hH q with ⟨j, m', mm', f1, f2, f3⟩ | ⟨j, m', mm', f1, f2, f3⟩
      · rw [f1, ri_k] at cst
        exact Or.inl ⟨j, m', mm', cst, f2, f3⟩
      · rw [f1, ri_k] at cst
        exact Or.inr ⟨j, m', mm', cst, f2, f3⟩
  have r3 : y ≤ 300 := by omega
  rcases core with ⟨j, m2, mm2, f1, f2, f3, k1, k1', g1, g2, g3, g4, g5, g6, g7, g8, g9, g10⟩ | ⟨j, m2, mm2, f1, f2, ⟨g1, g2, g3, g4, g5, g6⟩, g7⟩
  · have tj := tS_n (B := B) tb.1.1 (j - 1)
    rw [show j - 1 + 1 = j by omega] at tj
    have l3 := tb.1.2
    obtain ⟨mm3, fl, s1, s2, s3, s4, s5, s6⟩ := ref_nots (e := e) (d := d' + 7) (B := B) (L := L) (mm := mm1) (C := m2 190) (c := c) (c' := c') (K := K) (H := H) (y := y) (o := o) (c1 := k1) (c1' := k1') (j := j) (by omega) (by omega) (by omega) r3 hH r 0 false mm2 (by omega) (Int.le_refl _) (by rw [show k1' + 0 = k1' by omega]; exact g2) g4 (by rw [g9, a7]; exact h19) (by rw [show k1' + 0 = k1' by omega]; exact g10) ⟨fun z => absurd z (by decide), fun z => absurd z (by decide)⟩
    have st3 := st2.trans (f2.trans s1)
    have st4 := st1.trans (f1.trans b_84_59)
    rw [show wr 1 = 1 from rfl, wr_of (x := y % 2) (by omega) (by omega)] at st4
    have byt : 3 * (k1' + y - c') + 2 ≤ tokE B L (tS B L (j - 1)) - tS B L i := by omega
    by_cases p : y % 2 = 1
    · have fp : fl = true := s6.mpr p
      subst fp
      obtain ⟨m3, v1, v2, v3, v4, v5⟩ := g1.code (e := e) (d := d + 2) (q := 6) (v := 0) (by omega) (by omega) l0 l1 (by decide) (by decide) (by decide) (by decide)
      rw [itp ⟨by decide, by omega⟩, v1, rn_k, b_84_78, ck_t (nbp_of (Or.inr rfl))] at st4
      refine Or.inl ⟨j, m3, mm3, st4, st3, by omega, k1 + 1, k1' + y, v2, s2, (a5.trans g3 (Int.le_refl _)).trans v3 (by omega), a6.trans s3 (Int.le_refl _), by omega, by omega, byt, v5, by rw [s4]; exact h19.symm, ?_⟩
      exact semF_cnot (semF_cg s5 (fun p _ hp => v3.2.2.2.2 p hp) (fun _ _ _ => rfl)) hK (by omega) (by rw [v4]; decide)
    · have fp : fl = false := by
        cases fl
        · rfl
        · exact absurd (s6.mp rfl) p
      subst fp
      rw [itn (fun z => z.2 (by omega)), b_84_78, ck_t (nbp_of (Or.inr rfl))] at st4
      exact Or.inl ⟨j, m2, mm3, st4, st3, by omega, k1, k1' + y, g1, s2, a5.trans g3 (Int.le_refl _), a6.trans s3 (Int.le_refl _), by omega, by omega, byt, g8, by rw [s4]; exact h19.symm, s5⟩
  · have st3 := st2.trans (f2.trans (g4.tail (e := e) (d := d' + 7) g5 r3 r 0 (by omega) (Int.le_refl _)))
    have st4 := st1.trans (f1.trans b_84_59)
    rw [show wr 0 = 0 from rfl, itn (fun z => z.1 rfl), b_84_78, ck_t (nbp_of (Or.inl rfl))] at st4
    exact Or.inr ⟨j, m2, mm2, st4, st3, ⟨g1, g2, a5.trans g3 (Int.le_refl _), g4, g5, a6.trans g6 (Int.le_refl _)⟩, by rw [g7]; exact a7⟩
end SK
