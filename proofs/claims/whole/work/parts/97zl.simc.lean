/-! Reading: conditions on both sides. -/
section SL
variable {e : List Int32 × Value} {d d' : Nat} {m mm : zMm} {T B : Int → Int} {L : Int} {n i : Nat} {c c' l K H : Int}
theorem semF_mono {fl : Bool} {K' H' i j i' j' : Int} {C R : Int → Int} (h : semF fl K' H' C i j R i' j') (hK : K ≤ K') (hH : H ≤ H') : semF fl K H C i j R i' j' := by
  intro f k q1 q2
  obtain ⟨b, b1, b2, b3⟩ := h f k q1 q2
  exact ⟨b, b1, fun x x0 x1 => b2 x x0 (by omega), fun g h h0 hh => b3 g h h0 (by omega)⟩
theorem all_loop {o : Int} (hv : e.2 = .null ∨ e.2 = .ref 10301) (tb : TB T B L) (hK : K ≤ 268435456) (hH : H ≤ 118) (hO : SO e T B L o (2 * K) (H + 1) (d + 1) (d' + 4)) (c0 : 0 ≤ c) (cc : c ≤ c') (c3 : 3 * c' ≤ tS B L i) (l0 : 1 ≤ l) (l1 : l ≤ 10) (h19 : mm 246 19 = o) : ∀ (N j : Nat) (k : Int) (m1 mm1 : zMm), n - j ≤ N → 0 ≤ k → k ≤ j → GOOD T B L n i j c c' l K H m m1 mm mm1 → SIMa T B L n i c c' l K H m mm (fun v m' => Z e (d + 2) 83 12 [.ref 179, .int (iI o), .int (iI k)] [] m1 = ri v m') (fun mm' => Z e (d' + 5) 236 4 [.ref 246] [] mm1 = rn mm') := by
  intro N
  induction N with
  | zero =>
    intro j k m1 mm1 hN k0 k1 G
    obtain ⟨ij, x1, x1', g1, g2, g3, g4, g5, g6, g7, g8, g9, g10⟩ := id G
    have nn := g1.1.1.2.2.1
    have n3 := g1.1.1.2.2.2.1
    have q : ¬ cW T L (tS T L j) = 12 := fun q => by
      have := g1.1.lt (by omega)
      omega
    refine Or.inl ⟨j, m1, mm1, ?_, ?_, G⟩
    · refine (b_83_12).trans ?_
      rw [wr_of (x := k) (by omega) (by omega), itp (by omega), g1.1.pass0 (by decide) (by decide) q, ri_k, b_83_26, show wr 0 = 0 from rfl, itn (fun z => z rfl)]
    · refine (b_236_4).trans ?_
      rw [g2.1.name (x := 12) hv g2.2.1 tb (by decide) (by decide) nm_txt.2.2.2.2.2.2.2.2.2.2.1 (by decide) (by decide), bi_f q, ri_k, b_236_10, show wr 0 = 0 from rfl, itn (fun z => z rfl)]
  | succ N ih =>
    intro j k m1 mm1 hN k0 k1 G
    obtain ⟨ij, x1, x1', g1, g2, g3, g4, g5, g6, g7, g8, g9, g10⟩ := id G
    have nn := g1.1.1.2.2.1
    have n3 := g1.1.1.2.2.2.1
    have st1 : Z e (d + 2) 83 12 [.ref 179, .int (iI o), .int (iI k)] [] m1 = _ := b_83_12
    have st2 : Z e (d' + 5) 236 4 [.ref 246] [] mm1 = _ := b_236_4
    rw [wr_of (x := k) (by omega) (by omega), itp (by omega)] at st1
    rw [g2.1.name (x := 12) hv g2.2.1 tb (by decide) (by decide) nm_txt.2.2.2.2.2.2.2.2.2.2.1 (by decide) (by decide)] at st2
    by_cases q : cW T L (tS T L j) = 12
    · have ps := g1.1.pass (e := e) (d := d) (x := 12) g1.2.1 (by decide) (by decide) q
      obtain ⟨m2, e2, _, p2, p3⟩ := g1.adv (e := e) (d := d) ps.2
      obtain ⟨mm2, r1, r2, r3⟩ := g2.next (e := e) (d := d' + 2) tb.1.1 tb.1.2
      have w := tb.wl (i := j) (x := 12) (by decide) (by decide) q wl_v.1
      have t1 := tS_n (B := B) tb.1.1 (j - 1)
      rw [show j - 1 + 1 = j by omega] at t1
      have t2 := tS_n (B := B) tb.1.1 j
      have y19 : mm2 246 19 = o := by rw [r3.2.1 19 (by decide), g9]; exact h19
      rw [ps.1, ← e2, ri_k, b_83_26, show wr 1 = 1 from rfl, itp (by decide)] at st1
      rw [bi_t q, ri_k, b_236_10, show wr 1 = 1 from rfl, itp (by decide), r1, rn_k, b_236_17] at st2
      have cf2 : CF l c m m2 := g3.trans p3 (by omega)
      have mf2 : MF c' mm mm2 := g4.trans (MF.fx r3) (Int.le_refl _)
      rcases hO n (j + 1) x1 x1' l m2 mm2 p2 r2 (by omega) (by omega) (by omega) l0 l1 y19 with ⟨j2, m3, mm3, f1, f2, f3, k1, k1', s1, s2, s3, s4, s5, s6, s7, s8, s9, s10⟩ | ⟨j2, m3, mm3, f1, f2, ⟨s1, s2, s3, s4, s5, s6⟩, s7⟩
      · have t3 := tS_n (B := B) tb.1.1 (j2 - 1)
        have l3 := tb.1.2
        obtain ⟨m4, u1, u2, u3, u4, u5⟩ := s1.code (e := e) (d := d + 1) (q := 7) (v := 0) (by omega) (by omega) l0 l1 (by decide) (by decide) (by decide) (by decide)
        obtain ⟨mm4, v1, v2, v3, v4, v5⟩ := s2.code (e := e) (d := d' + 4) (x := 4001) (by omega) (by omega) rfl
        rw [f1, ri_k, b_83_34, show wr 1 = 1 from rfl, itn (by decide), u1, rn_k, b_83_49] at st1
        rw [f2, rn_k, b_236_21, v1, rn_k, b_236_28] at st2
        have G2 : GOOD T B L n i j2 c c' l K H m m4 mm mm4 := by
          refine ⟨by omega, k1 + 1, k1' + 1, u2, v2, (cf2.trans s3 (by omega)).trans u3 (by omega), (mf2.trans s4 (by omega)).trans v3 (by omega), by omega, by omega, by omega, u5, by rw [v5, s9, y19]; exact h19.symm, ?_⟩
          refine semF_op (c := 0) (semF_cg g10 (fun p _ hp => ?_) (fun p _ hp => ?_)) (semF_cg s10 (fun p _ hp => u3.2.2.2.2 p (by omega)) (fun p _ hp => v3.2.2 p (by omega))) hK hH (by omega) (by omega) (by omega) (by omega) ?_
          · rw [u3.2.2.2.2 p (by omega), s3.2.2.2.2 p (by omega), p3.2.2.2.2 p (by omega)]
          · rw [v3.2.2 p (by omega), s4.2.2 p (by omega), r3.1 256 (by decide)]
          · exact Or.inl ⟨by rw [u4]; decide, v4⟩
        rcases ih j2 (k + 1) m4 mm4 (by omega) (by omega) (by omega) G2 with ⟨j3, m5, mm5, a1, a2, a3⟩ | ⟨j3, m5, mm5, a1, a2, a3⟩
        · exact Or.inl ⟨j3, m5, mm5, st1.trans a1, st2.trans a2, a3⟩
        · exact Or.inr ⟨j3, m5, mm5, st1.trans a1, st2.trans a2, a3⟩
      · rw [f1, ri_k, b_83_34, show wr 0 = 0 from rfl, itp rfl] at st1
        rw [f2, rn_k, b_236_21, s4.codes s5, rn_k, b_236_28] at st2
        replace st2 := st2.trans b_236_4
        rw [s4.name s5 (by decide) (by decide), ri_k, b_236_10, show wr 0 = 0 from rfl, itn (fun z => z rfl)] at st2
        exact Or.inr ⟨j2, m3, mm3, st1, st2, ⟨s1, s2, cf2.trans s3 (by omega), s4, s5, mf2.trans s6 (by omega)⟩, by rw [s7, y19]; exact h19.symm⟩
    · rw [g1.1.pass0 (by decide) (by decide) q, ri_k, b_83_26, show wr 0 = 0 from rfl, itn (fun z => z rfl)] at st1
      rw [bi_f q, ri_k, b_236_10, show wr 0 = 0 from rfl, itn (fun z => z rfl)] at st2
      exact Or.inl ⟨j, m1, mm1, st1, st2, G⟩
theorem sim_all {o : Int} (hv : e.2 = .null ∨ e.2 = .ref 10301) (tb : TB T B L) (hk0 : 0 ≤ K) (hK : K ≤ 268435456) (hH : H ≤ 118) (hO : SO e T B L o (2 * K) (H + 1) (d + 1) (d' + 4)) : SA e T B L o K H (d + 2) (d' + 5) := by
  intro n i c c' l m mm h hm c0 cc c3 l0 l1 h19
  have st1 : Z e (d + 2) 83 0 [.ref 179, .int (iI o), .retAddr 0] [] m = _ := b_83_0
  have st2 : Z e (d' + 5) 236 0 [.ref 246] [] mm = _ := b_236_0
  rcases hO n i c c' l m mm h hm c0 cc c3 l0 l1 h19 with ⟨j, m1, mm1, f1, f2, f3, k1, k1', s1, s2, s3, s4, s5, s6, s7, s8, s9, s10⟩ | ⟨j, m1, mm1, f1, f2, ⟨s1, s2, s3, s4, s5, s6⟩, s7⟩
  · rw [f1, ri_k, b_83_5, show wr 1 = 1 from rfl, itn (by decide)] at st1
    rw [f2, rn_k] at st2
    have G : GOOD T B L n i j c c' l K H m m1 mm mm1 := ⟨f3, k1, k1', s1, s2, s3, s4, s5, s6, s7, s8, s9, semF_mono s10 (by omega) (by omega)⟩
    rcases all_loop (e := e) (d := d) (d' := d') hv tb hK hH hO c0 cc c3 l0 l1 h19 (n - j) j 0 m1 mm1 (Nat.le_refl _) (Int.le_refl _) (by omega) G with ⟨j3, m5, mm5, a1, a2, a3⟩ | ⟨j3, m5, mm5, a1, a2, a3⟩
    · exact Or.inl ⟨j3, m5, mm5, st1.trans a1, st2.trans a2, a3⟩
    · exact Or.inr ⟨j3, m5, mm5, st1.trans a1, st2.trans a2, a3⟩
  · rw [f1, ri_k, b_83_5, show wr 0 = 0 from rfl, itp rfl] at st1
    rw [f2, rn_k, b_236_4, s4.name s5 (by decide) (by decide), ri_k, b_236_10, show wr 0 = 0 from rfl, itn (fun z => z rfl)] at st2
    exact Or.inr ⟨j, m1, mm1, st1, st2, ⟨s1, s2, s3, s4, s5, s6⟩, s7⟩
theorem either_loop {o : Int} (hv : e.2 = .null ∨ e.2 = .ref 10301) (tb : TB T B L) (hK : K ≤ 268435456) (hH : H ≤ 118) (hO : SA e T B L o (2 * K) (H + 1) (d + 1) (d' + 4)) (c0 : 0 ≤ c) (cc : c ≤ c') (c3 : 3 * c' ≤ tS B L i) (l0 : 1 ≤ l) (l1 : l ≤ 10) (h19 : mm 246 19 = o) : ∀ (N j : Nat) (k : Int) (m1 mm1 : zMm), n - j ≤ N → 0 ≤ k → k ≤ j → GOOD T B L n i j c c' l K H m m1 mm mm1 → SIMa T B L n i c c' l K H m mm (fun v m' => Z e (d + 2) 82 12 [.ref 179, .int (iI o), .int (iI k)] [] m1 = ri v m') (fun mm' => Z e (d' + 5) 235 4 [.ref 246] [] mm1 = rn mm') := by
  intro N
  induction N with
  | zero =>
    intro j k m1 mm1 hN k0 k1 G
    obtain ⟨ij, x1, x1', g1, g2, g3, g4, g5, g6, g7, g8, g9, g10⟩ := id G
    have nn := g1.1.1.2.2.1
    have n3 := g1.1.1.2.2.2.1
    have q : ¬ cW T L (tS T L j) = 13 := fun q => by
      have := g1.1.lt (by omega)
      omega
    refine Or.inl ⟨j, m1, mm1, ?_, ?_, G⟩
    · refine (b_82_12).trans ?_
      rw [wr_of (x := k) (by omega) (by omega), itp (by omega), g1.1.pass0 (by decide) (by decide) q, ri_k, b_82_26, show wr 0 = 0 from rfl, itn (fun z => z rfl)]
    · refine (b_235_4).trans ?_
      rw [g2.1.name (x := 13) hv g2.2.1 tb (by decide) (by decide) nm_txt.2.2.2.2.2.2.2.2.2.2.2.1 (by decide) (by decide), bi_f q, ri_k, b_235_10, show wr 0 = 0 from rfl, itn (fun z => z rfl)]
  | succ N ih =>
    intro j k m1 mm1 hN k0 k1 G
    obtain ⟨ij, x1, x1', g1, g2, g3, g4, g5, g6, g7, g8, g9, g10⟩ := id G
    have nn := g1.1.1.2.2.1
    have n3 := g1.1.1.2.2.2.1
    have st1 : Z e (d + 2) 82 12 [.ref 179, .int (iI o), .int (iI k)] [] m1 = _ := b_82_12
    have st2 : Z e (d' + 5) 235 4 [.ref 246] [] mm1 = _ := b_235_4
    rw [wr_of (x := k) (by omega) (by omega), itp (by omega)] at st1
    rw [g2.1.name (x := 13) hv g2.2.1 tb (by decide) (by decide) nm_txt.2.2.2.2.2.2.2.2.2.2.2.1 (by decide) (by decide)] at st2
    by_cases q : cW T L (tS T L j) = 13
    · have ps := g1.1.pass (e := e) (d := d) (x := 13) g1.2.1 (by decide) (by decide) q
      obtain ⟨m2, e2, _, p2, p3⟩ := g1.adv (e := e) (d := d) ps.2
      obtain ⟨mm2, r1, r2, r3⟩ := g2.next (e := e) (d := d' + 2) tb.1.1 tb.1.2
      have w := tb.wl (i := j) (x := 13) (by decide) (by decide) q wl_v.2.1
      have t1 := tS_n (B := B) tb.1.1 (j - 1)
      rw [show j - 1 + 1 = j by omega] at t1
      have t2 := tS_n (B := B) tb.1.1 j
      have y19 : mm2 246 19 = o := by rw [r3.2.1 19 (by decide), g9]; exact h19
      rw [ps.1, ← e2, ri_k, b_82_26, show wr 1 = 1 from rfl, itp (by decide)] at st1
      rw [bi_t q, ri_k, b_235_10, show wr 1 = 1 from rfl, itp (by decide), r1, rn_k, b_235_17] at st2
      have cf2 : CF l c m m2 := g3.trans p3 (by omega)
      have mf2 : MF c' mm mm2 := g4.trans (MF.fx r3) (Int.le_refl _)
      rcases hO n (j + 1) x1 x1' l m2 mm2 p2 r2 (by omega) (by omega) (by omega) l0 l1 y19 with ⟨j2, m3, mm3, f1, f2, f3, k1, k1', s1, s2, s3, s4, s5, s6, s7, s8, s9, s10⟩ | ⟨j2, m3, mm3, f1, f2, ⟨s1, s2, s3, s4, s5, s6⟩, s7⟩
      · have t3 := tS_n (B := B) tb.1.1 (j2 - 1)
        have l3 := tb.1.2
        obtain ⟨m4, u1, u2, u3, u4, u5⟩ := s1.code (e := e) (d := d + 1) (q := 8) (v := 0) (by omega) (by omega) l0 l1 (by decide) (by decide) (by decide) (by decide)
        obtain ⟨mm4, v1, v2, v3, v4, v5⟩ := s2.code (e := e) (d := d' + 4) (x := 4002) (by omega) (by omega) rfl
        rw [f1, ri_k, b_82_34, show wr 1 = 1 from rfl, itn (by decide), u1, rn_k, b_82_49] at st1
        rw [f2, rn_k, b_235_21, v1, rn_k, b_235_28] at st2
        have G2 : GOOD T B L n i j2 c c' l K H m m4 mm mm4 := by
          refine ⟨by omega, k1 + 1, k1' + 1, u2, v2, (cf2.trans s3 (by omega)).trans u3 (by omega), (mf2.trans s4 (by omega)).trans v3 (by omega), by omega, by omega, by omega, u5, by rw [v5, s9, y19]; exact h19.symm, ?_⟩
          refine semF_op (c := 0) (semF_cg g10 (fun p _ hp => ?_) (fun p _ hp => ?_)) (semF_cg s10 (fun p _ hp => u3.2.2.2.2 p (by omega)) (fun p _ hp => v3.2.2 p (by omega))) hK hH (by omega) (by omega) (by omega) (by omega) ?_
          · rw [u3.2.2.2.2 p (by omega), s3.2.2.2.2 p (by omega), p3.2.2.2.2 p (by omega)]
          · rw [v3.2.2 p (by omega), s4.2.2 p (by omega), r3.1 256 (by decide)]
          · exact Or.inr ⟨by rw [u4]; decide, v4⟩
        rcases ih j2 (k + 1) m4 mm4 (by omega) (by omega) (by omega) G2 with ⟨j3, m5, mm5, a1, a2, a3⟩ | ⟨j3, m5, mm5, a1, a2, a3⟩
        · exact Or.inl ⟨j3, m5, mm5, st1.trans a1, st2.trans a2, a3⟩
        · exact Or.inr ⟨j3, m5, mm5, st1.trans a1, st2.trans a2, a3⟩
      · rw [f1, ri_k, b_82_34, show wr 0 = 0 from rfl, itp rfl] at st1
        rw [f2, rn_k, b_235_21, s4.codes s5, rn_k, b_235_28] at st2
        replace st2 := st2.trans b_235_4
        rw [s4.name s5 (by decide) (by decide), ri_k, b_235_10, show wr 0 = 0 from rfl, itn (fun z => z rfl)] at st2
        exact Or.inr ⟨j2, m3, mm3, st1, st2, ⟨s1, s2, cf2.trans s3 (by omega), s4, s5, mf2.trans s6 (by omega)⟩, by rw [s7, y19]; exact h19.symm⟩
    · rw [g1.1.pass0 (by decide) (by decide) q, ri_k, b_82_26, show wr 0 = 0 from rfl, itn (fun z => z rfl)] at st1
      rw [bi_f q, ri_k, b_235_10, show wr 0 = 0 from rfl, itn (fun z => z rfl)] at st2
      exact Or.inl ⟨j, m1, mm1, st1, st2, G⟩
theorem sim_either {o : Int} (hv : e.2 = .null ∨ e.2 = .ref 10301) (tb : TB T B L) (hk0 : 0 ≤ K) (hK : K ≤ 268435456) (hH : H ≤ 118) (hO : SA e T B L o (2 * K) (H + 1) (d + 1) (d' + 4)) : SE e T B L o K H (d + 2) (d' + 5) := by
  intro n i c c' l m mm h hm c0 cc c3 l0 l1 h19
  have st1 : Z e (d + 2) 82 0 [.ref 179, .int (iI o), .retAddr 0] [] m = _ := b_82_0
  have st2 : Z e (d' + 5) 235 0 [.ref 246] [] mm = _ := b_235_0
  rcases hO n i c c' l m mm h hm c0 cc c3 l0 l1 h19 with ⟨j, m1, mm1, f1, f2, f3, k1, k1', s1, s2, s3, s4, s5, s6, s7, s8, s9, s10⟩ | ⟨j, m1, mm1, f1, f2, ⟨s1, s2, s3, s4, s5, s6⟩, s7⟩
  · rw [f1, ri_k, b_82_5, show wr 1 = 1 from rfl, itn (by decide)] at st1
    rw [f2, rn_k] at st2
    have G : GOOD T B L n i j c c' l K H m m1 mm mm1 := ⟨f3, k1, k1', s1, s2, s3, s4, s5, s6, s7, s8, s9, semF_mono s10 (by omega) (by omega)⟩
    rcases either_loop (e := e) (d := d) (d' := d') hv tb hK hH hO c0 cc c3 l0 l1 h19 (n - j) j 0 m1 mm1 (Nat.le_refl _) (Int.le_refl _) (by omega) G with ⟨j3, m5, mm5, a1, a2, a3⟩ | ⟨j3, m5, mm5, a1, a2, a3⟩
    · exact Or.inl ⟨j3, m5, mm5, st1.trans a1, st2.trans a2, a3⟩
    · exact Or.inr ⟨j3, m5, mm5, st1.trans a1, st2.trans a2, a3⟩
  · rw [f1, ri_k, b_82_5, show wr 0 = 0 from rfl, itp rfl] at st1
    rw [f2, rn_k, b_235_4, s4.name s5 (by decide) (by decide), ri_k, b_235_10, show wr 0 = 0 from rfl, itn (fun z => z rfl)] at st2
    exact Or.inr ⟨j, m1, mm1, st1, st2, ⟨s1, s2, s3, s4, s5, s6⟩, s7⟩
theorem sim_cond (hv : e.2 = .null ∨ e.2 = .ref 10301) (tb : TB T B L) : SE e T B L 0 65536 60 (d + 21) (d' + 22) := by
  have o4 : SO e T B L 4 67108864 70 (d + 3) (d' + 8) := sim_one hv tb (by decide) (by decide) (by decide) (by decide) (fun z => absurd z (by decide))
  have e4 : SE e T B L 4 16777216 68 (d + 5) (d' + 10) := sim_either (d := d + 3) (d' := d' + 5) hv tb (by decide) (by decide) (by decide) (sim_all (d := d + 2) (d' := d' + 4) hv tb (by decide) (by decide) (by decide) o4)
  have o3 : SO e T B L 3 16777216 68 (d + 7) (d' + 11) := sim_one (d := d + 4) (d' := d' + 3) hv tb (by decide) (by decide) (by decide) (by decide) (fun _ => e4)
  have e3 : SE e T B L 3 4194304 66 (d + 9) (d' + 13) := sim_either (d := d + 7) (d' := d' + 8) hv tb (by decide) (by decide) (by decide) (sim_all (d := d + 6) (d' := d' + 7) hv tb (by decide) (by decide) (by decide) o3)
  have o2 : SO e T B L 2 4194304 66 (d + 11) (d' + 14) := sim_one (d := d + 8) (d' := d' + 6) hv tb (by decide) (by decide) (by decide) (by decide) (fun _ => e3)
  have e2 : SE e T B L 2 1048576 64 (d + 13) (d' + 16) := sim_either (d := d + 11) (d' := d' + 11) hv tb (by decide) (by decide) (by decide) (sim_all (d := d + 10) (d' := d' + 10) hv tb (by decide) (by decide) (by decide) o2)
  have o1 : SO e T B L 1 1048576 64 (d + 15) (d' + 17) := sim_one (d := d + 12) (d' := d' + 9) hv tb (by decide) (by decide) (by decide) (by decide) (fun _ => e2)
  have e1 : SE e T B L 1 262144 62 (d + 17) (d' + 19) := sim_either (d := d + 15) (d' := d' + 14) hv tb (by decide) (by decide) (by decide) (sim_all (d := d + 14) (d' := d' + 13) hv tb (by decide) (by decide) (by decide) o1)
  have o0 : SO e T B L 0 262144 62 (d + 19) (d' + 20) := sim_one (d := d + 16) (d' := d' + 12) hv tb (by decide) (by decide) (by decide) (by decide) (fun _ => e1)
  exact sim_either (d := d + 19) (d' := d' + 17) hv tb (by decide) (by decide) (by decide) (sim_all (d := d + 18) (d' := d' + 16) hv tb (by decide) (by decide) (by decide) o0)
end SL
