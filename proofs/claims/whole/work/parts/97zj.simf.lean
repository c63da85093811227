/-! Reading: a fact on both sides. -/
section SJ
variable {e : List Int32 × Value} {d d' : Nat} {m mm : zMm} {T B : Int → Int} {L : Int} {n i : Nat} {c c' l K H : Int}
theorem TB.wl {x : Int} {w : Nat} (h : TB T B L) (x0 : 3 ≤ x) (x1 : x < 32) (hw : cW T L (tS T L i) = x) (hl : (txt (wtx x)).length = w) : tS B L i + w = tokE B L (tS B L i) := by
  have sb := tS_b (T := B) h.1.1 i
  rw [h.ts i] at hw
  have q := ((cW_iff h sb.1 sb.2 x0 x1).mp hw).2.2.1
  rw [hl] at q
  omega
theorem wl_v : (txt (wtx 12)).length = 3 ∧ (txt (wtx 13)).length = 2 ∧ (txt (wtx 14)).length = 3 ∧ (txt (wtx 15)).length = 5 ∧ (txt (wtx 30)).length = 1 ∧ (txt (wtx 31)).length = 1 := by decide
theorem wl_k : ∀ k : Fin 32, (23 ≤ k.val → k.val < 26 → 3 ≤ (txt (wtx (k.val : Int))).length) ∧ (26 ≤ k.val → k.val < 29 → 5 ≤ (txt (wtx (k.val : Int))).length) := by decide
theorem wl_m {x : Int} (x0 : 23 ≤ x) (x1 : x < 29) : (x < 26 → 3 ≤ (txt (wtx x)).length) ∧ (26 ≤ x → 5 ≤ (txt (wtx x)).length) := by
  have q := wl_k ⟨x.toNat, by omega⟩
  rw [show (((⟨x.toNat, by omega⟩ : Fin 32).val : Nat) : Int) = x by show (x.toNat : Int) = x; omega] at q
  refine ⟨fun h => q.1 (by show 23 ≤ x.toNat; omega) (by show x.toNat < 26; omega), fun h => q.2 (by show 26 ≤ x.toNat; omega) (by show x.toNat < 29; omega)⟩
theorem tS_n (l0 : 0 ≤ L) (i : Nat) : tS B L i ≤ tokE B L (tS B L i) ∧ tokE B L (tS B L i) ≤ tS B L (i + 1) ∧ tS B L (i + 1) ≤ L := by
  have sb := tS_b (T := B) l0 i
  have eb := tokE_b (B := B) sb.2
  have g := gon_le (P := isB) (B := B) (L := L) (p := tokE B L (tS B L i)) eb.2.1
  refine ⟨eb.1, ?_, ?_⟩
  · show _ ≤ gon isB B L (tokE B L (tS B L i)); exact g.1
  · show gon isB B L (tokE B L (tS B L i)) ≤ L; exact g.2.1
theorem RX.mf {s : Int} {m' : zMm} (h : RX s m) (h2 : FX m m') (h3 : m' 246 15 = m 246 15) : RX s m' := ⟨by rw [h3]; exact h.1, by rw [h2.2.1 18 (by decide)]; exact h.2⟩
theorem MS.fx {j : Nat} {m' : zMm} (h : MS B L i c' m) (hr : RR B L j m') (hf : FX m m') : MS B L j c' m' := ⟨hr, hf.2.2, by rw [hf.2.1 20 (by decide)]; exact h.2.2⟩
theorem MS.next (h : MS B L i c' m) (l0 : 0 ≤ L) (l1 : L ≤ 300) : ∃ m', Z e (d + 2) 229 0 [.ref 246] [] m = rn m' ∧ MS B L (i + 1) c' m' ∧ FX m m' := by
  obtain ⟨m', a1, a2, a3⟩ := h.1.next (e := e) (d := d) h.2.1 l0 l1
  exact ⟨m', a1, h.fx a2 a3, a3⟩
theorem MS.need1 (h : MS B L i c' m) (l0 : 0 ≤ L) (l1 : L ≤ 300) : ∃ m', Z e (d + 3) 232 0 [.ref 246, .int (iI 1)] [] m = rn m' ∧ MS B L (i + 1) c' m' ∧ FX m m' := by
  obtain ⟨m', a1, a2, a3⟩ := h.1.need (e := e) (d := d) (x := 1) h.2.1 l0 l1 rfl (by decide)
  exact ⟨m', a1, h.fx a2 a3, a3⟩
theorem MF.u18 (x : Int) : MF c m (um m 246 18 x) := ⟨fun k hk => um_r (by omega), fun i hi => um_i (by omega), fun q _ => by rw [um_k (by decide)]⟩
theorem MF.u19 (x : Int) : MF c m (um m 246 19 x) := ⟨fun k hk => um_r (by omega), fun i hi => um_i (by omega), fun q _ => by rw [um_k (by decide)]⟩
theorem MS.need0 (h : MS B L i c' m) : ∃ m', Z e (d + 3) 232 0 [.ref 246, .int (iI 0)] [] m = rn m' ∧ RX (tS B L i) m' ∧ Rng m' ∧ MF c' m m' ∧ m' 246 19 = m 246 19 := by
  refine ⟨_, h.1.need0 h.2.1, ⟨?_, um_s⟩, h.2.1.um rfl, MF.u18 _, ?_⟩
  · rw [um_i (by decide)]; exact h.1.1
  · rw [um_i (by decide)]
theorem MS.code {x : Int} (h : MS B L i c' m) (c0 : 0 ≤ c') (c1 : c' < 120) (hx : wr x = x) : ∃ m', Z e d 234 0 [.ref 246, .int (iI x)] [] m = rn m' ∧ MS B L i (c' + 1) m' ∧ MF c' m m' ∧ m' 256 c' = x ∧ m' 246 19 = m 246 19 := by
  obtain ⟨h1, h2, h3⟩ := h
  obtain ⟨a1, a2, a3, a4, a5, a6⟩ := h1
  refine ⟨_, M_code h2 a4 h3 c0 c1, ⟨⟨?_, ?_, ?_, ?_, ?_, ?_⟩, (h2.um hx).um (wr_of (by omega) (by omega)), um_s⟩, MF.code _ _, ?_, ?_⟩
  · rw [um_i (by decide), um_k (by decide)]; exact a1
  · rw [um_i (by decide), um_k (by decide)]; exact a2
  · rw [um_i (by decide), um_k (by decide)]; exact a3
  · rw [um_i (by decide), um_k (by decide)]; exact a4
  · rw [um_r (by decide), um_r (by decide)]; exact a5
  · rw [um_i (by decide), um_k (by decide)]; exact a6
  · rw [um_k (by decide), um_s]
  · rw [um_i (by decide), um_k (by decide)]
theorem M_fact0 {y : Int} {u2 : Value} {s : Int} (h : RX s m) (hr : Rng m) : ∀ x : Int, x = -1 ∨ 3000 ≤ x → x < 4000 → Z e (d + 5) 237 183 [.ref 246, .int (iI y), .int (iI x)] [] m = Z e (d + 5) 237 223 [.ref 246, .int (iI y), .int (iI 0)] [] m := by
  intro x hx x1
  rw [b_237_183, wr_of (x := x) (by omega) (by omega), itn (by omega), b_237_216, h.codes hr, rn_k, b_237_221]
/-- both passed, or both stand at a fault -/
def SIMa (T B : Int → Int) (L : Int) (n i : Nat) (c c' l K H : Int) (m mm : zMm) (X : Int → zMm → Prop) (Y : zMm → Prop) : Prop := (∃ j m' mm', X 1 m' ∧ Y mm' ∧ GOOD T B L n i j c c' l K H m m' mm mm') ∨ (∃ j m' mm', X 0 m' ∧ Y mm' ∧ BAD T B L n j c c' l m m' mm mm' ∧ mm' 246 19 = mm 246 19)
theorem sim_fact {y : Int} {u2 : Value} (hv : e.2 = .null ∨ e.2 = .ref 10301) (tb : TB T B L) (h : CS T L n i c l m) (hm : MS B L i c' mm) (c0 : 0 ≤ c) (cc : c ≤ c') (c3 : 3 * c' ≤ tS B L i) (l0 : 1 ≤ l) (l1 : l ≤ 10) (hK : K ≤ 536870912) (hH : H ≤ 119) (hx : ¬ cW T L (tS T L i) = 30) : SIMa T B L n i c c' l K H m mm (fun v m' => Z e (d + 2) 86 0 [.ref 179, .retAddr 0, .retAddr 0] [] m = ri v m') (fun mm' => Z e (d' + 5) 237 21 [.ref 246, .int (iI y), u2] [] mm = Z e (d' + 5) 237 223 [.ref 246, .int (iI y), .int (iI 0)] [] mm') := by
  have pk := M_pick (e := e) (d := d') (y := y) (u2 := u2) hm.1 hv hm.2.1 tb hx
  have wb := cW_b (T := T) (L := L) (s := tS T L i)
  have ll := tb.1.2
  have t0 := tS_n (B := B) tb.1.1 i
  have t1 := tS_n (B := B) tb.1.1 (i + 1)
  have t2 := tS_n (B := B) tb.1.1 (i + 2)
  by_cases q : 23 ≤ cW T L (tS T L i) ∧ cW T L (tS T L i) < 29
  · have w := tb.wl (x := cW T L (tS T L i)) (by omega) (by omega) rfl rfl
    have wm := wl_m q.1 q.2
    generalize (txt (wtx (cW T L (tS T L i)))).length = len at w wm
    by_cases q2 : cW T L (tS T L i) < 26
    · -- a measure
      have w3 := wm.1 q2
      have cm := C_meas (e := e) (d := d) h tb.1.1 c0 (by omega) l0 l1 ⟨q.1, q2⟩
      obtain ⟨mm1, a1, a2, a3⟩ := hm.need1 (e := e) (d := d' + 1) tb.1.1 ll
      have nm := a2.1.name (e := e) (d := d') (a := 10121) (x := 15) hv a2.2.1 tb (by decide) (by decide) nm_txt.2.2.2.2.2.2.2.2.2.1 (by decide) (by decide)
      rw [if_pos ⟨q.1, q2⟩, b_237_169, wr_of (x := cW T L (tS T L i) - 23) (by omega) (by omega), itp (by omega), a1, rn_k, b_237_183, wr_of (x := cW T L (tS T L i) - 23) (by omega) (by omega), itp (by omega), nm, ri_k, b_237_199] at pk
      by_cases q3 : cW T L (tS T L (i + 1)) = 15
      · obtain ⟨mm2, b1, b2, b3⟩ := a2.need1 (e := e) (d := d' + 1) tb.1.1 ll
        rw [bi_t q3, b1, rn_k, b_237_202] at pk
        have w5 := tb.wl (i := i + 1) (x := 15) (by decide) (by decide) q3 wl_v.2.2.2.1
        have nb := b2.1.number (e := e) (d := d') (x := 999) b2.2.1 tb (by decide) (by decide)
        by_cases q4 : cW T L (tS T L (i + 2)) = 2 ∧ cN T L (tS T L (i + 2)) ≤ 999
        · obtain ⟨m', f1, f2, f3, f4, f5⟩ := (cm.2 q3).2 q4
          obtain ⟨mm3, g1, g2, g3⟩ := nb.1 q4
          have cb := cN_b (T := T) (tS_b (T := T) tb.1.1 (i + 2)).2
          rw [g1, ri_k, b_237_214, b_237_216] at pk
          have g4 : MS B L (i + 3) c' mm3 := b2.fx g2 g3
          obtain ⟨mm4, k1, k2, k3, k4, k5⟩ := g4.code (e := e) (d := d' + 4) (x := 1000 * (cW T L (tS T L i) - 23) + cN T L (tS T L (i + 1 + 1))) (by omega) (by omega) (wr_of (by have : 0 ≤ cN T L (tS T L (i + 1 + 1)) := cb.1; omega) (by have : cN T L (tS T L (i + 1 + 1)) ≤ 1000 := cb.2; omega))
          rw [k1, rn_k, b_237_221] at pk
          refine Or.inl ⟨i + 3, m', mm4, f1, pk, by omega, c + 1, c' + 1, f2, k2, f3, ((((MF.fx a3).trans (MF.fx b3) (Int.le_refl _)).trans (MF.fx g3) (Int.le_refl _)).trans k3 (Int.le_refl _)), by omega, by omega, ?_, f5, ?_, semF_fact hK hH (q := cW T L (tS T L i) - 23) (n := cN T L (tS T L (i + 2))) (by omega) (by omega) cb.1 q4.2 f4 k4⟩
          · show 3 * (c' + 1 - c') + 2 ≤ tokE B L (tS B L (i + 2)) - tS B L i
            have u1 : tokE B L (tS B L i) ≤ tS B L (i + 1) := t0.2.1
            have u2 : tokE B L (tS B L (i + 1)) ≤ tS B L (i + 2) := t1.2.1
            have u3 : tS B L (i + 2) ≤ tokE B L (tS B L (i + 2)) := t2.1
            omega
          · rw [k5, g3.2.1 19 (by decide), b3.2.1 19 (by decide), a3.2.1 19 (by decide)]
        · obtain ⟨m', f1, f2, f3⟩ := (cm.2 q3).1 q4
          obtain ⟨v, g1⟩ := nb.2 q4
          have rx : RX (tS B L (i + 2)) (um mm2 246 18 1) := ⟨by rw [um_i (by decide)]; exact b2.1.1, um_s⟩
          have rg : Rng (um mm2 246 18 1) := b2.2.1.um rfl
          rw [g1, ri_k, b_237_214, b_237_216, rx.codes rg, rn_k, b_237_221] at pk
          refine Or.inr ⟨i + 2, m', _, f1, pk, ⟨f2.1, f2.2.1, f3, rx, rg, ((MF.fx a3).trans (MF.fx b3) (Int.le_refl _)).trans (MF.u18 _) (Int.le_refl _)⟩, ?_⟩
          rw [um_i (by decide), b3.2.1 19 (by decide), a3.2.1 19 (by decide)]
      · obtain ⟨m', f1, f2, f3⟩ := cm.1 q3
        obtain ⟨mm2, b1, b2, b3, b4, b5⟩ := a2.need0 (e := e) (d := d' + 1)
        rw [bi_f q3, b1, rn_k, b_237_202, b2.number b3, ri_k, b_237_214, b_237_216, b2.codes b3, rn_k, b_237_221] at pk
        exact Or.inr ⟨i + 1, m', _, f1, pk, ⟨f2.1, f2.2.1, f3, b2, b3, (MF.fx a3).trans b4 (Int.le_refl _)⟩, by rw [b5, a3.2.1 19 (by decide)]⟩
    · -- a mark
      have w5 := wm.2 (by omega)
      obtain ⟨m', f1, f2, f3, f4, f5⟩ := C_mark (e := e) (d := d) h c0 (by omega) l0 l1 ⟨by omega, q.2⟩
      obtain ⟨mm1, a1, a2, a3⟩ := hm.need1 (e := e) (d := d' + 1) tb.1.1 ll
      obtain ⟨mm4, k1, k2, k3, k4, k5⟩ := a2.code (e := e) (d := d' + 4) (x := 3000 + (cW T L (tS T L i) - 26)) (by omega) (by omega) (wr_of (by omega) (by omega))
      rw [if_neg (by omega), if_pos ⟨by omega, q.2⟩, b_237_169, wr_of (x := 3000 + (cW T L (tS T L i) - 26)) (by omega) (by omega), itp (by omega), a1, rn_k, b_237_183, wr_of (x := 3000 + (cW T L (tS T L i) - 26)) (by omega) (by omega), itn (by omega), b_237_216, k1, rn_k, b_237_221] at pk
      refine Or.inl ⟨i + 1, m', mm4, f1, pk, by omega, c + 1, c' + 1, f2, k2, f3, (MF.fx a3).trans k3 (Int.le_refl _), by omega, by omega, ?_, f5, by rw [k5, a3.2.1 19 (by decide)], semF_mark hK hH (q := cW T L (tS T L i) - 23) (by omega) (by omega) f4 (by rw [k4]; omega)⟩
      show 3 * (c' + 1 - c') + 2 ≤ tokE B L (tS B L i) - tS B L i
      omega
  · obtain ⟨mm1, b1, b2, b3, b4, b5⟩ := hm.need0 (e := e) (d := d' + 1)
    rw [if_neg (by omega), if_neg (by omega), b_237_169, show wr (-1) = -1 from rfl, itn (by decide), b1, rn_k, M_fact0 (u2 := .null) b2 b3 (-1) (Or.inl rfl) (by decide)] at pk
    exact Or.inr ⟨i, m, mm1, C_fact0 h q, pk, ⟨h.1, h.2.1, CF.refl, b2, b3, b4⟩, b5⟩
end SJ
