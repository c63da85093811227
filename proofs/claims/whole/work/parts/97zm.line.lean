/-! Reading: lines; frames, addLine, the condition of a line. -/
section SM
variable {e : List Int32 × Value} {d d' : Nat} {m m' mm mm' : zMm} {T B : Int → Int} {L : Int} {n i : Nat} {c c' l : Int}
theorem semw_cg {C C2 R R2 : Int → Int} {i j i' j' : Int} (h : sem C i j R i' j') (hc : ∀ q, i ≤ q → q < j → C2 q = C q) (hr : ∀ q, i' ≤ q → q < j' → R2 q = R q) : sem C2 i j R2 i' j' := semF_sem (semF_cg (fl := false) (K := 65536) (H := 60) h hc hr)
/-- line q of both drafts -/
def LN (m mm : zMm) (c c' q : Int) : Prop := (m 186 q = mm 255 (4 * q) ∧ 0 ≤ mm 255 (4 * q) ∧ mm 255 (4 * q) ≤ 6) ∧ (m 187 q = mm 255 (4 * q + 1) ∧ 0 ≤ mm 255 (4 * q + 1) ∧ mm 255 (4 * q + 1) ≤ 999) ∧ (0 ≤ m 188 q ∧ m 189 q ≤ c) ∧ (0 ≤ mm 255 (4 * q + 2) ∧ mm 255 (4 * q + 3) ≤ c') ∧ ((m 188 q = m 189 q ∧ mm 255 (4 * q + 2) = mm 255 (4 * q + 3)) ∨ (m 188 q < m 189 q ∧ mm 255 (4 * q + 2) < mm 255 (4 * q + 3) ∧ sem (m 190) (m 188 q) (m 189 q) (mm 256) (mm 255 (4 * q + 2)) (mm 255 (4 * q + 3))))
/-- what stays in the class -/
def CFl (l c : Int) (m m' : zMm) : Prop := (∀ k, ¬ (k = 179 ∨ (185 ≤ k ∧ k ≤ 190)) → m' k = m k) ∧ (∀ i, ¬ (i = 7 ∨ i = 8) → m' 179 i = m 179 i) ∧ (∀ i, ¬ (i = 3 ∨ i = 4) → m' 185 i = m 185 i) ∧ (∀ q, q < l → m' 186 q = m 186 q ∧ m' 187 q = m 187 q ∧ m' 188 q = m 188 q ∧ m' 189 q = m 189 q) ∧ (∀ q, q < c → m' 190 q = m 190 q)
/-- what stays in the reference -/
def MFl (l c : Int) (m m' : zMm) : Prop := (∀ k, ¬ (k = 246 ∨ k = 255 ∨ k = 256) → m' k = m k) ∧ (∀ i, ¬ (15 ≤ i ∧ i ≤ 20) → m' 246 i = m 246 i) ∧ (∀ p, p < 4 * l → m' 255 p = m 255 p) ∧ (∀ q, q < c → m' 256 q = m 256 q)
theorem CFl.refl : CFl l c m m := ⟨fun _ _ => rfl, fun _ _ => rfl, fun _ _ => rfl, fun _ _ => ⟨rfl, rfl, rfl, rfl⟩, fun _ _ => rfl⟩
theorem MFl.refl : MFl l c m m := ⟨fun _ _ => rfl, fun _ _ => rfl, fun _ _ => rfl, fun _ _ => rfl⟩
theorem CFl.trans {m2 : zMm} {l2 c2 : Int} (h : CFl l c m m') (h2 : CFl l2 c2 m' m2) (hl : l ≤ l2) (hc : c ≤ c2) : CFl l c m m2 := ⟨fun k hk => (h2.1 k hk).trans (h.1 k hk), fun k hk => (h2.2.1 k hk).trans (h.2.1 k hk), fun k hk => (h2.2.2.1 k hk).trans (h.2.2.1 k hk), fun q hq => by
  have a := h2.2.2.2.1 q (by omega)
  have b := h.2.2.2.1 q hq
  exact ⟨a.1.trans b.1, a.2.1.trans b.2.1, a.2.2.1.trans b.2.2.1, a.2.2.2.trans b.2.2.2⟩, fun q hq => (h2.2.2.2.2 q (by omega)).trans (h.2.2.2.2 q hq)⟩
theorem MFl.trans {m2 : zMm} {l2 c2 : Int} (h : MFl l c m m') (h2 : MFl l2 c2 m' m2) (hl : l ≤ l2) (hc : c ≤ c2) : MFl l c m m2 := ⟨fun k hk => (h2.1 k hk).trans (h.1 k hk), fun k hk => (h2.2.1 k hk).trans (h.2.1 k hk), fun q hq => (h2.2.2.1 q (by omega)).trans (h.2.2.1 q hq), fun q hq => (h2.2.2.2 q (by omega)).trans (h.2.2.2 q hq)⟩
theorem CF.fl {l2 : Int} (h : CF l2 c m m') (hl : l ≤ l2 - 1) : CFl l c m m' := ⟨fun k hk => h.1 k (by omega), fun k hk => h.2.1 k hk, fun k hk => h.2.2.1 k (by omega), fun q hq => ⟨by rw [h.1 186 (by decide)], by rw [h.1 187 (by decide)], by rw [h.1 188 (by decide)], h.2.2.2.1 q (by omega)⟩, h.2.2.2.2⟩
theorem MF.fl (h : MF c m m') : MFl l c m m' := ⟨fun k hk => h.1 k (by omega), fun k hk => h.2.1 k hk, fun q _ => by rw [h.1 255 (by decide)], h.2.2⟩
theorem MFl.u {p x : Int} (hp : 4 * l ≤ p) : MFl l c m (um m 255 p x) := ⟨fun k hk => um_r (by omega), fun k _ => um_k (by decide), fun q hq => um_i (by omega), fun q _ => um_k (by decide)⟩
theorem CFl.adv (x y : Int) : CFl l c m (um (um m 179 7 x) 179 8 y) := CF.fl (l2 := l + 1) (CF.adv x y) (by omega)
theorem MS.u255 {p x : Int} (h : MS B L i c' m) (hx : wr x = x) : MS B L i c' (um m 255 p x) := by
  obtain ⟨⟨a1, a2, a3, a4, a5, a6⟩, h2, h3⟩ := h
  refine ⟨⟨?_, ?_, ?_, ?_, ?_, ?_⟩, h2.um hx, ?_⟩
  · rw [um_k (by decide)]; exact a1
  · rw [um_k (by decide)]; exact a2
  · rw [um_k (by decide)]; exact a3
  · rw [um_k (by decide)]; exact a4
  · rw [um_r (by decide)]; exact a5
  · rw [um_k (by decide)]; exact a6
  · rw [um_k (by decide)]; exact h3
theorem RX.u255 {s p x : Int} (h : RX s m) : RX s (um m 255 p x) := ⟨by rw [um_k (by decide)]; exact h.1, by rw [um_k (by decide)]; exact h.2⟩
theorem ri_wr {x : Int} : ri (wr x) m = ri x m := by
  unfold ri
  rw [iI_wr]
theorem C_line {kd nu : Int} (h : CS T L n i c l m) (c0 : 0 ≤ c) (c1 : c ≤ 100) (l0 : 0 ≤ l) (l1 : l < 10) (hk : wr kd = kd) (hn : wr nu = nu) : ∃ m', Z e d 112 0 [.ref 185, .int (iI kd), .int (iI nu)] [] m = rn m' ∧ CS T L n i c (l + 1) m' ∧ CFl l c m m' ∧ m' 186 l = kd ∧ m' 187 l = nu ∧ m' 188 l = c ∧ m' 189 l = c := by
  obtain ⟨h1, h2, h3, h4⟩ := h
  have wl : wr l = l := wr_of (by omega) (by omega)
  have e1 : um m 186 l kd 185 3 = l := by rw [um_k (by decide)]; exact h4
  have e2 : um (um m 186 l kd) 187 l nu 185 3 = l := by rw [um_k (by decide)]; exact e1
  have e2' : um (um m 186 l kd) 187 l nu 185 4 = c := by rw [um_k (by decide), um_k (by decide)]; exact h3
  have e3 : um (um (um m 186 l kd) 187 l nu) 188 l c 185 3 = l := by rw [um_k (by decide)]; exact e2
  have e3' : um (um (um m 186 l kd) 187 l nu) 188 l c 185 4 = c := by rw [um_k (by decide)]; exact e2'
  have e4 : um (um (um (um m 186 l kd) 187 l nu) 188 l c) 189 l c 185 3 = l := by rw [um_k (by decide)]; exact e3
  refine ⟨um (um (um (um (um m 186 l kd) 187 l nu) 188 l c) 189 l c) 185 3 (l + 1), ?_, ⟨?_, ?_, ?_, ?_⟩, ?_, ?_, ?_, ?_, ?_⟩
  · rw [b_112_0, h4, wl, itn (by omega), e1, wl, e2, wl, e2', e3, wl, e3', e4, ck_t (by omega), ck_t (by omega), ck_t (by omega), ck_t (by omega)]
  · obtain ⟨a1, a2, a3, a4⟩ := h1
    have g : ∀ k, ¬ (185 ≤ k ∧ k ≤ 189) → um (um (um (um (um m 186 l kd) 187 l nu) 188 l c) 189 l c) 185 3 (l + 1) k = m k := fun k hk => by rw [um_r (by omega), um_r (by omega), um_r (by omega), um_r (by omega), um_r (by omega)]
    refine ⟨?_, ?_, ?_, a4⟩
    · rw [g 179 (by decide)]; exact a1
    · intro k hk
      rw [g 182 (by decide), g 183 (by decide), g 184 (by decide)]
      exact a2 k hk
    · rw [g 182 (by decide), g 183 (by decide), g 184 (by decide)]
      exact a3
  · exact ((((h2.um hk).um hn).um (wr_of (by omega) (by omega))).um (wr_of (by omega) (by omega))).um (wr_of (by omega) (by omega))
  · rw [um_i (by decide), um_k (by decide)]; exact e3'
  · rw [um_s]
  · refine ⟨fun k hk => ?_, fun k hk => ?_, fun k hk => ?_, fun q hq => ⟨?_, ?_, ?_, ?_⟩, fun q hq => ?_⟩
    · rw [um_r (by omega), um_r (by omega), um_r (by omega), um_r (by omega), um_r (by omega)]
    · rw [um_k (by decide), um_k (by decide), um_k (by decide), um_k (by decide), um_k (by decide)]
    · rw [um_i (by omega), um_k (by decide), um_k (by decide), um_k (by decide), um_k (by decide)]
    · rw [um_k (by decide), um_k (by decide), um_k (by decide), um_k (by decide), um_i (by omega)]
    · rw [um_k (by decide), um_k (by decide), um_k (by decide), um_i (by omega), um_k (by decide)]
    · rw [um_k (by decide), um_k (by decide), um_i (by omega), um_k (by decide), um_k (by decide)]
    · rw [um_k (by decide), um_i (by omega), um_k (by decide), um_k (by decide), um_k (by decide)]
    · rw [um_k (by decide), um_k (by decide), um_k (by decide), um_k (by decide), um_k (by decide)]
  · rw [um_k (by decide), um_k (by decide), um_k (by decide), um_k (by decide), um_s]
  · rw [um_k (by decide), um_k (by decide), um_k (by decide), um_s]
  · rw [um_k (by decide), um_k (by decide), um_s]
  · rw [um_k (by decide), um_s]
/-- both read the line's condition -/
def IGOOD (T B : Int → Int) (L : Int) (n : Nat) (j : Nat) (c c' l : Int) (m m' mm mm' : zMm) : Prop := ∃ c1 c1', CS T L n j c1 (l + 1) m' ∧ MS B L j c1' mm' ∧ CF (l + 1) c m m' ∧ MFl l c' mm mm' ∧ c ≤ c1 ∧ c1 - c ≤ c1' - c' ∧ 3 * c1' ≤ tS B L j ∧ m' 189 l = c1 ∧ (∀ p, p < 4 * l + 2 → mm' 255 p = mm 255 p) ∧ mm' 255 (4 * l + 2) = c' ∧ mm' 255 (4 * l + 3) = c1' ∧ mm' 246 19 = mm 246 19 ∧ ((c = c1 ∧ c' = c1') ∨ (c < c1 ∧ c' < c1' ∧ sem (m' 190) c c1 (mm' 256) c' c1'))
def LBAD (T B : Int → Int) (L : Int) (n j : Nat) (c c' l : Int) (m m' mm mm' : zMm) : Prop := RC T L n j m' ∧ Rng m' ∧ CFl l c m m' ∧ RX (tS B L j) mm' ∧ Rng mm' ∧ MFl l c' mm mm'
theorem RX.cond {s x : Int} (h : RX s mm) (hr : Rng mm) (x0 : 0 ≤ x) (x1 : x + 3 < 40) (hl : 4 * l ≤ x) : ∃ mm', Z e (d + 5) 239 0 [.ref 246, .int (iI x)] [] mm = rn mm' ∧ RX s mm' ∧ Rng mm' ∧ MFl l c' mm mm' := by
  have h1 : RX s (um mm 255 (x + 2) (mm 246 20)) := h.u255
  have hr1 : Rng (um mm 255 (x + 2) (mm 246 20)) := hr.um (hr 246 20)
  have e20 : um mm 255 (x + 2) (mm 246 20) 246 20 = mm 246 20 := um_k (by decide)
  refine ⟨um (um mm 255 (x + 2) (mm 246 20)) 255 (x + 3) (mm 246 20), ?_, h1.u255, hr1.um (hr 246 20), (MFl.u (by omega)).trans (MFl.u (l := l) (c := c') (by omega)) (Int.le_refl _) (Int.le_refl _)⟩
  rw [b_239_0, wr_of (x := x + 2) (by omega) (by omega), ck_t (by omega), h1.name hr1 (by decide) (by decide), ri_k, b_239_18, show wr 0 = 0 from rfl, itn (fun z => z rfl), wr_of (x := x + 3) (by omega) (by omega), ck_t (by omega), e20]
theorem sim_if (hv : e.2 = .null ∨ e.2 = .ref 10301) (tb : TB T B L) (h : CS T L n i c (l + 1) m) (hm : MS B L i c' mm) (c0 : 0 ≤ c) (cc : c ≤ c') (c3 : 3 * c' ≤ tS B L i) (l0 : 0 ≤ l) (l1 : l < 10) (h19 : mm 246 19 = 0) (h189 : m 189 l = c) : (∃ j m' mm', Z e (d + 22) 81 0 [.ref 179] [] m = ri 1 m' ∧ Z e (d' + 23) 239 0 [.ref 246, .int (iI (4 * l))] [] mm = rn mm' ∧ IGOOD T B L n j c c' l m m' mm mm') ∨ (∃ j m' mm', Z e (d + 22) 81 0 [.ref 179] [] m = ri 0 m' ∧ Z e (d' + 23) 239 0 [.ref 246, .int (iI (4 * l))] [] mm = rn mm' ∧ LBAD T B L n j c c' l m m' mm mm') := by
  have st1 : Z e (d + 22) 81 0 [.ref 179] [] m = _ := b_81_0
  have st2 : Z e (d' + 23) 239 0 [.ref 246, .int (iI (4 * l))] [] mm = _ := b_239_0
  have tr := tS_b (T := B) tb.1.1 i
  have l3 := tb.1.2
  have wc : wr c' = c' := wr_of (by omega) (by omega)
  have h20 : mm 246 20 = c' := hm.2.2
  rw [wr_of (x := 4 * l + 2) (by omega) (by omega), ck_t (by omega), h20] at st2
  have hm1 : MS B L i c' (um mm 255 (4 * l + 2) c') := hm.u255 wc
  have f1 : MFl l c' mm (um mm 255 (4 * l + 2) c') := MFl.u (by omega)
  have g19 : um mm 255 (4 * l + 2) c' 246 19 = 0 := by rw [um_k (by decide)]; exact h19
  have g2 : um mm 255 (4 * l + 2) c' 255 (4 * l + 2) = c' := um_s
  have g3 : ∀ p, p < 4 * l + 2 → um mm 255 (4 * l + 2) c' 255 p = mm 255 p := fun p hp => um_i (by omega)
  generalize um mm 255 (4 * l + 2) c' = mm1 at *
  rw [hm1.1.name (x := 9) hv hm1.2.1 tb (by decide) (by decide) nm_txt.2.2.2.2.2.2.2.1 (by decide) (by decide), ri_k, b_239_18] at st2
  by_cases q : cW T L (tS T L i) = 9
  · have ps := h.1.pass (e := e) (d := d + 20) (x := 9) h.2.1 (by decide) (by decide) q
    obtain ⟨m2, e2, _, p2, p3⟩ := h.adv (e := e) (d := d) ps.2
    obtain ⟨mm2, r1, r2, r3⟩ := hm1.next (e := e) (d := d' + 20) tb.1.1 tb.1.2
    have t := tS_n (B := B) tb.1.1 i
    rw [ps.1, ← e2, ri_k, b_81_7, show wr 1 = 1 from rfl, itp (by decide)] at st1
    rw [bi_t q, show wr 1 = 1 from rfl, itp (by decide), r1, rn_k, b_239_25] at st2
    have y19 : mm2 246 19 = 0 := by rw [r3.2.1 19 (by decide)]; exact g19
    have f2 : MFl l c' mm mm2 := f1.trans (MF.fx (c := c') r3).fl (Int.le_refl _) (Int.le_refl _)
    rcases sim_cond (e := e) (d := d) (d' := d') hv tb n (i + 1) c c' (l + 1) m2 mm2 p2 r2 c0 cc (by omega) (by omega) (by omega) y19 with ⟨j, m3, mm3, a1, a2, a3, k1, k1', s1, s2, s3, s4, s5, s6, s7, s8, s9, s10⟩ | ⟨j, m3, mm3, a1, a2, ⟨s1, s2, s3, s4, s5, s6⟩, s7⟩
    · have t3 := tS_n (B := B) tb.1.1 (j - 1)
      rw [show j - 1 + 1 = j by omega] at t3
      have wk : wr k1' = k1' := wr_of (by omega) (by omega)
      rw [a1, ri_k, b_81_15, show wr 1 = 1 from rfl, itp (by decide)] at st1
      rw [a2, rn_k, b_239_29, wr_of (x := 4 * l + 3) (by omega) (by omega), ck_t (by omega), s2.2.2] at st2
      refine Or.inl ⟨j, m3, _, st1, st2, k1, k1', s1, s2.u255 wk, p3.trans s3 (Int.le_refl _), (f2.trans s4.fl (Int.le_refl _) (Int.le_refl _)).trans (MFl.u (l := l) (c := c') (by omega)) (Int.le_refl _) (Int.le_refl _), by omega, s6, by omega, ?_, fun p hp => ?_, ?_, um_s, ?_, Or.inr ⟨s5, by omega, ?_⟩⟩
      · rw [show l + 1 - 1 = l by omega] at s8; exact s8
      · rw [um_i (by omega), s4.1 255 (by decide), r3.1 255 (by decide)]; exact g3 p hp
      · rw [um_i (by omega), s4.1 255 (by decide), r3.1 255 (by decide)]; exact g2
      · rw [um_k (by decide), s9, y19]; exact h19.symm
      · rw [um_r (by decide)]; exact semF_sem s10
    · rw [a1, ri_k, b_81_15, show wr 0 = 0 from rfl, itn (fun z => z rfl)] at st1
      rw [a2, rn_k, b_239_29, wr_of (x := 4 * l + 3) (by omega) (by omega), ck_t (by omega)] at st2
      exact Or.inr ⟨j, m3, _, st1, st2, s1, s2, (p3.trans s3 (Int.le_refl _)).fl (by omega), s4.u255, s5.um (s5 246 20), (f2.trans s6.fl (Int.le_refl _) (Int.le_refl _)).trans (MFl.u (l := l) (c := c') (by omega)) (Int.le_refl _) (Int.le_refl _)⟩
  · rw [h.1.pass0 (by decide) (by decide) q, ri_k, b_81_7, show wr 0 = 0 from rfl, itn (fun z => z rfl)] at st1
    rw [bi_f q, show wr 0 = 0 from rfl, itn (fun z => z rfl), wr_of (x := 4 * l + 3) (by omega) (by omega), ck_t (by omega), hm1.2.2] at st2
    refine Or.inl ⟨i, m, _, st1, st2, c, c', h, hm1.u255 wc, CF.refl, f1.trans (MFl.u (l := l) (c := c') (by omega)) (Int.le_refl _) (Int.le_refl _), Int.le_refl _, by omega, c3, h189, fun p hp => ?_, ?_, um_s, ?_, Or.inl ⟨rfl, rfl⟩⟩
    · rw [um_i (by omega)]; exact g3 p hp
    · rw [um_i (by omega)]; exact g2
    · rw [um_k (by decide), g19]; exact h19.symm
end SM
