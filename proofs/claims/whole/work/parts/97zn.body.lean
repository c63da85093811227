/-! Reading: lines with a number; measure. -/
section SN
variable {e : List Int32 × Value} {d d' : Nat} {m m' mm mm' : zMm} {T B : Int → Int} {L : Int} {n i : Nat} {c c' l : Int}
def LGOOD (T B : Int → Int) (L : Int) (n : Nat) (j : Nat) (c c' l : Int) (m m' mm mm' : zMm) : Prop := ∃ c1 c1', CS T L n j c1 (l + 1) m' ∧ MS B L j c1' mm' ∧ CFl l c m m' ∧ MFl l c' mm mm' ∧ c ≤ c1 ∧ c1 - c ≤ c1' - c' ∧ 3 * c1' ≤ tS B L j ∧ LN m' mm' c1 c1' l ∧ mm' 246 19 = mm 246 19
/-- a line on both sides: X what the class answers, Y where the reference ends -/
def SIMl (T B : Int → Int) (L : Int) (n : Nat) (c c' l : Int) (m mm : zMm) (X : Int → zMm → Prop) (Y : zMm → Prop) : Prop := (∃ j m' mm', X 1 m' ∧ Y mm' ∧ LGOOD T B L n j c c' l m m' mm mm') ∨ (∃ j m' mm', X 0 m' ∧ Y mm' ∧ LBAD T B L n j c c' l m m' mm mm')
theorem CS.fx {m1 : zMm} (h : CS T L n i c l m) (hi : i < n) (e1 : m1 = um (um m 179 7 ((i : Int) + 1)) 179 8 (cW T L (tS T L (i + 1)))) : CS T L n (i + 1) c l m1 ∧ CFl l c m m1 := by
  obtain ⟨m2, e2, _, a, b⟩ := h.adv (e := ([], .null)) (d := 0) hi
  rw [e1, ← e2]
  exact ⟨a, by rw [e2]; exact CFl.adv _ _⟩
theorem sim_num {kd mx : Int} (tb : TB T B L) (h : CS T L n i c l m) (hm : MS B L i c' mm) (c0 : 0 ≤ c) (c1 : c ≤ 100) (l0 : 0 ≤ l) (l1 : l < 10) (hk : wr kd = kd) (x0 : 0 ≤ mx) (x1 : mx ≤ 999) : (∃ m' mm' v, Z e (d + 2) 78 0 [.ref 179, .int (iI kd), .int (iI mx), .retAddr 0] [] m = ri 1 m' ∧ Z e (d' + 4) 233 0 [.ref 246, .int (iI mx), .retAddr 0, .retAddr 0, .retAddr 0] [] mm = ri v mm' ∧ (0 ≤ v ∧ v ≤ mx) ∧ CS T L n (i + 1) c (l + 1) m' ∧ MS B L (i + 1) c' mm' ∧ CFl l c m m' ∧ FX mm mm' ∧ m' 186 l = kd ∧ m' 187 l = v ∧ m' 188 l = c ∧ m' 189 l = c) ∨ (∃ mm' v, Z e (d + 2) 78 0 [.ref 179, .int (iI kd), .int (iI mx), .retAddr 0] [] m = ri 0 m ∧ Z e (d' + 4) 233 0 [.ref 246, .int (iI mx), .retAddr 0, .retAddr 0, .retAddr 0] [] mm = ri v mm' ∧ wr v = v ∧ RX (tS B L i) mm' ∧ Rng mm' ∧ MF c' mm mm') := by
  have nb := hm.1.number (e := e) (d := d') (x := mx) hm.2.1 tb x0 x1
  have st : Z e (d + 2) 78 0 [.ref 179, .int (iI kd), .int (iI mx), .retAddr 0] [] m = _ := b_78_0
  by_cases q : cW T L (tS T L i) = 2 ∧ cN T L (tS T L i) ≤ mx
  · obtain ⟨mm1, a1, a2, a3⟩ := nb.1 q
    have nm := h.1.num (e := e) (d := d) (x := mx) h.2.1 tb.1.1 x0 x1 q
    obtain ⟨m1, e1, _, p2, p3⟩ := h.adv (e := e) (d := d) nm.2
    have cb := cN_b (T := T) (tS_b (T := T) tb.1.1 i).2
    have cl : CFl l c m m1 := by rw [e1]; exact CFl.adv _ _
    generalize cN T L (tS T L i) = v at *
    obtain ⟨m2, f1, f2, f3, f4⟩ := C_line (e := e) (d := d + 1) (kd := kd) (nu := v) p2 c0 c1 l0 l1 hk (wr_of (by omega) (by omega))
    rw [nm.1, ← e1, ri_k, b_78_5 cat_i, wr_of (x := v) (by omega) (by omega), itn (by omega), f1, rn_k, b_78_23] at st
    exact Or.inl ⟨m2, mm1, v, st, a1, ⟨cb.1, q.2⟩, f2, hm.fx a2 a3, cl.trans f3 (Int.le_refl _) (Int.le_refl _), a3, f4⟩
  · obtain ⟨v, a1⟩ := nb.2 q
    rw [h.1.num0 h.2.1 x0 x1 q, ri_k, b_78_5 cat_i, show wr (-3) = -3 from rfl, itp rfl] at st
    refine Or.inr ⟨_, wr v, st, by rw [ri_wr]; exact a1, wr_wr, ⟨by rw [um_i (by decide)]; exact hm.1.1, um_s⟩, hm.2.1.um rfl, MF.u18 _⟩
/-- the reference begins a line -/
theorem M_line0 (hm : MS B L i c' mm) (c0 : 0 ≤ c') (c1 : c' ≤ 100) (l0 : 0 ≤ l) (l1 : l < 10) : ∃ mm1, Z e (d + 5) 240 0 [.ref 246, .int (iI (4 * l)), .retAddr 0, .retAddr 0] [] mm = (Z e (d + 4) 230 0 [.ref 246, .ref 10107, .retAddr 0, .retAddr 0] [] mm1).bind (ZK e (d + 5) 240 40 [.ref 246, .int (iI (4 * l)), .retAddr 0, .retAddr 0] [] mm1) ∧ MS B L i c' mm1 ∧ MFl l c' mm mm1 ∧ mm1 255 (4 * l + 1) = 0 ∧ mm1 255 (4 * l + 2) = c' ∧ mm1 255 (4 * l + 3) = c' ∧ mm1 246 19 = mm 246 19 := by
  have w : wr c' = c' := wr_of (by omega) (by omega)
  have e1 : um mm 255 (4 * l + 2) c' 246 20 = c' := by rw [um_k (by decide)]; exact hm.2.2
  refine ⟨um (um (um mm 255 (4 * l + 2) c') 255 (4 * l + 3) c') 255 (4 * l + 1) 0, ?_, ((hm.u255 w).u255 w).u255 rfl, ((MFl.u (l := l) (c := c') (by omega)).trans (MFl.u (l := l) (c := c') (by omega)) (Int.le_refl _) (Int.le_refl _)).trans (MFl.u (l := l) (c := c') (by omega)) (Int.le_refl _) (Int.le_refl _), um_s, ?_, ?_, ?_⟩
  · rw [b_240_0, wr_of (x := 4 * l + 2) (by omega) (by omega), wr_of (x := 4 * l + 3) (by omega) (by omega), wr_of (x := 4 * l + 1) (by omega) (by omega), hm.2.2, e1, ck_t (by omega), ck_t (by omega), ck_t (by omega)]
  · rw [um_i (by omega), um_i (by omega), um_s]
  · rw [um_i (by omega), um_s]
  · rw [um_k (by decide), um_k (by decide), um_k (by decide)]
/-- the line that was read -/
theorem IGOOD.line {j : Nat} {kd nu : Int} {m0 mm0 : zMm} (h : IGOOD T B L n j c c' l m m' mm mm') (c0 : 0 ≤ c) (cc : c ≤ c') (hk : m 186 l = kd ∧ mm 255 (4 * l) = kd) (k0 : 0 ≤ kd) (k1 : kd ≤ 6) (hn : m 187 l = nu ∧ mm 255 (4 * l + 1) = nu) (n0 : 0 ≤ nu) (n1 : nu ≤ 999) (h8 : m 188 l = c) (f : CFl l c m0 m) (g : MFl l c' mm0 mm) (h19 : mm 246 19 = mm0 246 19) : LGOOD T B L n j c c' l m0 m' mm0 mm' := by
  obtain ⟨c1, c1', a1, a2, a3, a4, a5, a6, a7, a8, a9, a10, a11, a12, a13⟩ := h
  refine ⟨c1, c1', a1, a2, f.trans (a3.fl (by omega)) (Int.le_refl _) (Int.le_refl _), g.trans a4 (Int.le_refl _) (Int.le_refl _), a5, a6, a7, ?_, a12.trans h19⟩
  have b6 : m' 186 l = kd := by rw [a3.1 186 (by decide)]; exact hk.1
  have b7 : m' 187 l = nu := by rw [a3.1 187 (by decide)]; exact hn.1
  have b8 : m' 188 l = c := by rw [a3.1 188 (by decide)]; exact h8
  have d0 : mm' 255 (4 * l) = kd := by rw [a9 _ (by omega)]; exact hk.2
  have d1 : mm' 255 (4 * l + 1) = nu := by rw [a9 _ (by omega)]; exact hn.2
  unfold LN
  rw [b6, b7, b8, a8, d0, d1, a10, a11]
  exact ⟨⟨rfl, k0, k1⟩, ⟨rfl, n0, n1⟩, ⟨c0, Int.le_refl _⟩, ⟨by omega, Int.le_refl _⟩, a13⟩
/-- a line without a condition -/
theorem plain_line {j : Nat} {kd nu : Int} {m0 mm0 : zMm} (hc : CS T L n j c (l + 1) m) (hm : MS B L j c' mm) (c0 : 0 ≤ c) (cc : c ≤ c') (c3 : 3 * c' ≤ tS B L j) (hk : m 186 l = kd ∧ mm 255 (4 * l) = kd) (k0 : 0 ≤ kd) (k1 : kd ≤ 6) (hn : m 187 l = nu ∧ mm 255 (4 * l + 1) = nu) (n0 : 0 ≤ nu) (n1 : nu ≤ 999) (h8 : m 188 l = c) (h9 : m 189 l = c) (h2 : mm 255 (4 * l + 2) = c') (h3 : mm 255 (4 * l + 3) = c') (f : CFl l c m0 m) (g : MFl l c' mm0 mm) (h19 : mm 246 19 = mm0 246 19) : LGOOD T B L n j c c' l m0 m mm0 mm := by
  refine ⟨c, c', hc, hm, f, g, Int.le_refl _, by omega, c3, ?_, h19⟩
  unfold LN
  rw [hk.1, hn.1, h8, h9, hk.2, hn.2, h2, h3]
  exact ⟨⟨rfl, k0, k1⟩, ⟨rfl, n0, n1⟩, ⟨c0, Int.le_refl _⟩, ⟨by omega, Int.le_refl _⟩, Or.inl ⟨rfl, rfl⟩⟩
theorem body_3 (hv : e.2 = .null ∨ e.2 = .ref 10301) (tb : TB T B L) (h : CS T L n i c l m) (hm : MS B L i c' mm) (c0 : 0 ≤ c) (cc : c ≤ c') (c3 : 3 * c' ≤ tS B L i) (l0 : 0 ≤ l) (l1 : l < 10) (h19 : mm 246 19 = 0) (q : cW T L (tS T L i) = 3) : SIMl T B L n c c' l m mm (fun v m' => Z e (d + 23) 77 0 [.ref 179] [] m = ri v m') (fun mm' => ∃ u1 u2 u3, Z e (d' + 24) 240 0 [.ref 246, .int (iI (4 * l)), .retAddr 0, .retAddr 0] [] mm = Z e (d' + 24) 240 342 [.ref 246, u1, u2, u3] [] mm') := by
  have tr := tS_b (T := B) tb.1.1 i
  have l3 := tb.1.2
  have w0 : wr 0 = 0 := rfl
  have w1 : wr 1 = 1 := rfl
  have t := tS_n (B := B) tb.1.1 i
  have t2 := tS_n (B := B) tb.1.1 (i + 1)
  obtain ⟨mm1, st2, hm1, g1, g2, g3, g4, g5⟩ := M_line0 (e := e) (d := d' + 19) hm (by omega) (by omega) l0 l1
  have st1 : Z e (d + 23) 77 0 [.ref 179] [] m = _ := b_77_0
  have nm : ∀ (a : Nat) (x : Int), 10100 ≤ a → a < 10156 → txt a = txt (wtx x) → 3 ≤ x → x < 29 → Z e (d' + 23) 230 0 [.ref 246, .ref a, .retAddr 0, .retAddr 0] [] mm1 = ri (bi (cW T L (tS T L i) = x)) mm1 := fun a x a0 a1 ha x0 x1 => hm1.1.name (d := d' + 19) hv hm1.2.1 tb a0 a1 ha x0 x1
  have p0 : ∀ x : Int, 0 ≤ x → x < 32 → ¬ cW T L (tS T L i) = x → Z e (d + 22) 75 0 [.ref 179, .ref (10000 + x.toNat)] [] m = ri 0 m := fun x x0 x1 hx => h.1.pass0 (d := d + 21) x0 x1 hx
  have ps := h.1.pass (e := e) (d := d + 21) (x := 3) h.2.1 (by decide) (by decide) q
  obtain ⟨m1, e1, _, p2, _⟩ := h.adv (e := e) (d := d) ps.2
  have cl : CFl l c m m1 := by rw [e1]; exact CFl.adv _ _
  obtain ⟨mm2, r1, r2, r3⟩ := hm1.next (e := e) (d := d' + 21) tb.1.1 tb.1.2
  have g6 : MFl l c' mm mm2 := g1.trans (MF.fx (c := c') r3).fl (Int.le_refl _) (Int.le_refl _)
  rw [ps.1, ← e1, ri_k, b_77_7, w1, itp (by decide)] at st1
  rw [nm 10107 3 (by decide) (by decide) nm_txt.2.1 (by decide) (by decide), bi_t q, ri_k, b_240_40, w1, itp (by decide), r1, rn_k] at st2
  have x5 : wr (4 * l) = 4 * l := wr_of (by omega) (by omega)
  rw [b_240_47, x5, ck_t (by omega)] at st2
  have hm3 : MS B L (i + 1) c' (um mm2 255 (4 * l) 0) := r2.u255 rfl
  have g7 : MFl l c' mm (um mm2 255 (4 * l) 0) := g6.trans (MFl.u (l := l) (c := c') (by omega)) (Int.le_refl _) (Int.le_refl _)
  have k0 : um mm2 255 (4 * l) 0 255 (4 * l) = 0 := um_s
  have k2 : um mm2 255 (4 * l) 0 255 (4 * l + 2) = c' := by rw [um_i (by omega), r3.1 255 (by decide)]; exact g3
  have k3 : um mm2 255 (4 * l) 0 255 (4 * l + 3) = c' := by rw [um_i (by omega), r3.1 255 (by decide)]; exact g4
  have k9 : um mm2 255 (4 * l) 0 246 19 = mm 246 19 := by rw [um_k (by decide), r3.2.1 19 (by decide)]; exact g5
  generalize um mm2 255 (4 * l) 0 = mm3 at *
  rcases sim_num (e := e) (d := d + 20) (d' := d' + 19) (kd := 0) (mx := 18) tb p2 hm3 c0 (by omega) l0 l1 rfl (by decide) (by decide) with ⟨m4, mm4, v, a1, a2, a3, a4, a5, a6, a7, a8, a9, a10, a11⟩ | ⟨mm4, v, a1, a2, a3, a4, a5, a6⟩
  · rw [a1, ri_k, b_77_17, ck_t (nbp_of (Or.inr rfl))] at st1
    rw [a2, ri_k, b_240_67, wr_of (x := 4 * l + 1) (by omega) (by omega), ck_t (by omega)] at st2
    refine Or.inl ⟨i + 2, m4, _, st1, ⟨_, _, _, st2⟩, plain_line (kd := 0) (nu := v) a4 (a5.u255 (wr_of (by omega) (by omega))) c0 cc ?_ ⟨a8, ?_⟩ (by decide) (by decide) ⟨a9, um_s⟩ a3.1 (by omega) a10 a11 ?_ ?_ (cl.trans a6 (Int.le_refl _) (Int.le_refl _)) ((g7.trans (MF.fx (c := c') a7).fl (Int.le_refl _) (Int.le_refl _)).trans (MFl.u (l := l) (c := c') (by omega)) (Int.le_refl _) (Int.le_refl _)) ?_⟩
    · show 3 * c' ≤ tS B L (i + 1 + 1); omega
    · rw [um_i (by omega), a7.1 255 (by decide)]; exact k0
    · rw [um_i (by omega), a7.1 255 (by decide)]; exact k2
    · rw [um_i (by omega), a7.1 255 (by decide)]; exact k3
    · rw [um_k (by decide), a7.2.1 19 (by decide)]; exact k9
  · rw [a1, ri_k, b_77_17, ck_t (nbp_of (Or.inl rfl))] at st1
    rw [a2, ri_k, b_240_67, wr_of (x := 4 * l + 1) (by omega) (by omega), ck_t (by omega)] at st2
    exact Or.inr ⟨i + 1, m1, _, st1, ⟨_, _, _, st2⟩, p2.1, p2.2.1, cl, a4.u255, a5.um a3, (g7.trans a6.fl (Int.le_refl _) (Int.le_refl _)).trans (MFl.u (l := l) (c := c') (by omega)) (Int.le_refl _) (Int.le_refl _)⟩
theorem body_7 (hv : e.2 = .null ∨ e.2 = .ref 10301) (tb : TB T B L) (h : CS T L n i c l m) (hm : MS B L i c' mm) (c0 : 0 ≤ c) (cc : c ≤ c') (c3 : 3 * c' ≤ tS B L i) (l0 : 0 ≤ l) (l1 : l < 10) (h19 : mm 246 19 = 0) (q : cW T L (tS T L i) = 7) : SIMl T B L n c c' l m mm (fun v m' => Z e (d + 23) 77 0 [.ref 179] [] m = ri v m') (fun mm' => ∃ u1 u2 u3, Z e (d' + 24) 240 0 [.ref 246, .int (iI (4 * l)), .retAddr 0, .retAddr 0] [] mm = Z e (d' + 24) 240 342 [.ref 246, u1, u2, u3] [] mm') := by
  have tr := tS_b (T := B) tb.1.1 i
  have l3 := tb.1.2
  have w0 : wr 0 = 0 := rfl
  have w1 : wr 1 = 1 := rfl
  have t := tS_n (B := B) tb.1.1 i
  have t2 := tS_n (B := B) tb.1.1 (i + 1)
  obtain ⟨mm1, st2, hm1, g1, g2, g3, g4, g5⟩ := M_line0 (e := e) (d := d' + 19) hm (by omega) (by omega) l0 l1
  have st1 : Z e (d + 23) 77 0 [.ref 179] [] m = _ := b_77_0
  have nm : ∀ (a : Nat) (x : Int), 10100 ≤ a → a < 10156 → txt a = txt (wtx x) → 3 ≤ x → x < 29 → Z e (d' + 23) 230 0 [.ref 246, .ref a, .retAddr 0, .retAddr 0] [] mm1 = ri (bi (cW T L (tS T L i) = x)) mm1 := fun a x a0 a1 ha x0 x1 => hm1.1.name (d := d' + 19) hv hm1.2.1 tb a0 a1 ha x0 x1
  have p0 : ∀ x : Int, 0 ≤ x → x < 32 → ¬ cW T L (tS T L i) = x → Z e (d + 22) 75 0 [.ref 179, .ref (10000 + x.toNat)] [] m = ri 0 m := fun x x0 x1 hx => h.1.pass0 (d := d + 21) x0 x1 hx
  have ps := h.1.pass (e := e) (d := d + 21) (x := 7) h.2.1 (by decide) (by decide) q
  obtain ⟨m1, e1, _, p2, _⟩ := h.adv (e := e) (d := d) ps.2
  have cl : CFl l c m m1 := by rw [e1]; exact CFl.adv _ _
  obtain ⟨mm2, r1, r2, r3⟩ := hm1.next (e := e) (d := d' + 21) tb.1.1 tb.1.2
  have g6 : MFl l c' mm mm2 := g1.trans (MF.fx (c := c') r3).fl (Int.le_refl _) (Int.le_refl _)
  rw [p0 3 (by decide) (by decide) (by omega), ri_k, b_77_7, w0, itn (fun z => z rfl), ps.1, ← e1, ri_k, b_77_25, w1, itp (by decide)] at st1
  rw [nm 10107 3 (by decide) (by decide) nm_txt.2.1 (by decide) (by decide), bi_f (by omega), ri_k, b_240_40, w0, itn (fun z => z rfl), nm 10108 7 (by decide) (by decide) nm_txt.2.2.1 (by decide) (by decide), bi_t q, ri_k, b_240_78, w1, itp (by decide), r1, rn_k] at st2
  have x5 : wr (4 * l) = 4 * l := wr_of (by omega) (by omega)
  rw [b_240_85, x5, ck_t (by omega)] at st2
  have hm3 : MS B L (i + 1) c' (um mm2 255 (4 * l) 3) := r2.u255 rfl
  have g7 : MFl l c' mm (um mm2 255 (4 * l) 3) := g6.trans (MFl.u (l := l) (c := c') (by omega)) (Int.le_refl _) (Int.le_refl _)
  have k0 : um mm2 255 (4 * l) 3 255 (4 * l) = 3 := um_s
  have k2 : um mm2 255 (4 * l) 3 255 (4 * l + 2) = c' := by rw [um_i (by omega), r3.1 255 (by decide)]; exact g3
  have k3 : um mm2 255 (4 * l) 3 255 (4 * l + 3) = c' := by rw [um_i (by omega), r3.1 255 (by decide)]; exact g4
  have k9 : um mm2 255 (4 * l) 3 246 19 = mm 246 19 := by rw [um_k (by decide), r3.2.1 19 (by decide)]; exact g5
  generalize um mm2 255 (4 * l) 3 = mm3 at *
  rcases sim_num (e := e) (d := d + 20) (d' := d' + 19) (kd := 3) (mx := 999) tb p2 hm3 c0 (by omega) l0 l1 rfl (by decide) (by decide) with ⟨m4, mm4, v, a1, a2, a3, a4, a5, a6, a7, a8, a9, a10, a11⟩ | ⟨mm4, v, a1, a2, a3, a4, a5, a6⟩
  · rw [a1, ri_k, b_77_36, ck_t (nbp_of (Or.inr rfl))] at st1
    rw [a2, ri_k, b_240_106, wr_of (x := 4 * l + 1) (by omega) (by omega), ck_t (by omega)] at st2
    refine Or.inl ⟨i + 2, m4, _, st1, ⟨_, _, _, st2⟩, plain_line (kd := 3) (nu := v) a4 (a5.u255 (wr_of (by omega) (by omega))) c0 cc ?_ ⟨a8, ?_⟩ (by decide) (by decide) ⟨a9, um_s⟩ a3.1 (by omega) a10 a11 ?_ ?_ (cl.trans a6 (Int.le_refl _) (Int.le_refl _)) ((g7.trans (MF.fx (c := c') a7).fl (Int.le_refl _) (Int.le_refl _)).trans (MFl.u (l := l) (c := c') (by omega)) (Int.le_refl _) (Int.le_refl _)) ?_⟩
    · show 3 * c' ≤ tS B L (i + 1 + 1); omega
    · rw [um_i (by omega), a7.1 255 (by decide)]; exact k0
    · rw [um_i (by omega), a7.1 255 (by decide)]; exact k2
    · rw [um_i (by omega), a7.1 255 (by decide)]; exact k3
    · rw [um_k (by decide), a7.2.1 19 (by decide)]; exact k9
  · rw [a1, ri_k, b_77_36, ck_t (nbp_of (Or.inl rfl))] at st1
    rw [a2, ri_k, b_240_106, wr_of (x := 4 * l + 1) (by omega) (by omega), ck_t (by omega)] at st2
    exact Or.inr ⟨i + 1, m1, _, st1, ⟨_, _, _, st2⟩, p2.1, p2.2.1, cl, a4.u255, a5.um a3, (g7.trans a6.fl (Int.le_refl _) (Int.le_refl _)).trans (MFl.u (l := l) (c := c') (by omega)) (Int.le_refl _) (Int.le_refl _)⟩
theorem body_8 (hv : e.2 = .null ∨ e.2 = .ref 10301) (tb : TB T B L) (h : CS T L n i c l m) (hm : MS B L i c' mm) (c0 : 0 ≤ c) (cc : c ≤ c') (c3 : 3 * c' ≤ tS B L i) (l0 : 0 ≤ l) (l1 : l < 10) (h19 : mm 246 19 = 0) (q : cW T L (tS T L i) = 8) : SIMl T B L n c c' l m mm (fun v m' => Z e (d + 23) 77 0 [.ref 179] [] m = ri v m') (fun mm' => ∃ u1 u2 u3, Z e (d' + 24) 240 0 [.ref 246, .int (iI (4 * l)), .retAddr 0, .retAddr 0] [] mm = Z e (d' + 24) 240 342 [.ref 246, u1, u2, u3] [] mm') := by
  have tr := tS_b (T := B) tb.1.1 i
  have l3 := tb.1.2
  have w0 : wr 0 = 0 := rfl
  have w1 : wr 1 = 1 := rfl
  have t := tS_n (B := B) tb.1.1 i
  have t2 := tS_n (B := B) tb.1.1 (i + 1)
  obtain ⟨mm1, st2, hm1, g1, g2, g3, g4, g5⟩ := M_line0 (e := e) (d := d' + 19) hm (by omega) (by omega) l0 l1
  have st1 : Z e (d + 23) 77 0 [.ref 179] [] m = _ := b_77_0
  have nm : ∀ (a : Nat) (x : Int), 10100 ≤ a → a < 10156 → txt a = txt (wtx x) → 3 ≤ x → x < 29 → Z e (d' + 23) 230 0 [.ref 246, .ref a, .retAddr 0, .retAddr 0] [] mm1 = ri (bi (cW T L (tS T L i) = x)) mm1 := fun a x a0 a1 ha x0 x1 => hm1.1.name (d := d' + 19) hv hm1.2.1 tb a0 a1 ha x0 x1
  have p0 : ∀ x : Int, 0 ≤ x → x < 32 → ¬ cW T L (tS T L i) = x → Z e (d + 22) 75 0 [.ref 179, .ref (10000 + x.toNat)] [] m = ri 0 m := fun x x0 x1 hx => h.1.pass0 (d := d + 21) x0 x1 hx
  have ps := h.1.pass (e := e) (d := d + 21) (x := 8) h.2.1 (by decide) (by decide) q
  obtain ⟨m1, e1, _, p2, _⟩ := h.adv (e := e) (d := d) ps.2
  have cl : CFl l c m m1 := by rw [e1]; exact CFl.adv _ _
  obtain ⟨mm2, r1, r2, r3⟩ := hm1.next (e := e) (d := d' + 21) tb.1.1 tb.1.2
  have g6 : MFl l c' mm mm2 := g1.trans (MF.fx (c := c') r3).fl (Int.le_refl _) (Int.le_refl _)
  rw [p0 3 (by decide) (by decide) (by omega), ri_k, b_77_7, w0, itn (fun z => z rfl), p0 7 (by decide) (by decide) (by omega), ri_k, b_77_25, w0, itn (fun z => z rfl), ps.1, ← e1, ri_k, b_77_44, w1, itp (by decide)] at st1
  rw [nm 10107 3 (by decide) (by decide) nm_txt.2.1 (by decide) (by decide), bi_f (by omega), ri_k, b_240_40, w0, itn (fun z => z rfl), nm 10108 7 (by decide) (by decide) nm_txt.2.2.1 (by decide) (by decide), bi_f (by omega), ri_k, b_240_78, w0, itn (fun z => z rfl), nm 10109 4 (by decide) (by decide) nm_txt.2.2.2.1 (by decide) (by decide), bi_f (by omega), ri_k, b_240_117, w0, itn (fun z => z rfl), nm 10112 8 (by decide) (by decide) nm_txt.2.2.2.2.2.2.1 (by decide) (by decide), bi_t q, ri_k, b_240_184, w1, itp (by decide), r1, rn_k] at st2
  have x5 : wr (4 * l) = 4 * l := wr_of (by omega) (by omega)
  rw [b_240_191, x5, ck_t (by omega)] at st2
  have hm3 : MS B L (i + 1) c' (um mm2 255 (4 * l) 4) := r2.u255 rfl
  have g7 : MFl l c' mm (um mm2 255 (4 * l) 4) := g6.trans (MFl.u (l := l) (c := c') (by omega)) (Int.le_refl _) (Int.le_refl _)
  have k0 : um mm2 255 (4 * l) 4 255 (4 * l) = 4 := um_s
  have k2 : um mm2 255 (4 * l) 4 255 (4 * l + 2) = c' := by rw [um_i (by omega), r3.1 255 (by decide)]; exact g3
  have k3 : um mm2 255 (4 * l) 4 255 (4 * l + 3) = c' := by rw [um_i (by omega), r3.1 255 (by decide)]; exact g4
  have k9 : um mm2 255 (4 * l) 4 246 19 = mm 246 19 := by rw [um_k (by decide), r3.2.1 19 (by decide)]; exact g5
  generalize um mm2 255 (4 * l) 4 = mm3 at *
  rcases sim_num (e := e) (d := d + 20) (d' := d' + 19) (kd := 4) (mx := 999) tb p2 hm3 c0 (by omega) l0 l1 rfl (by decide) (by decide) with ⟨m4, mm4, v, a1, a2, a3, a4, a5, a6, a7, a8, a9, a10, a11⟩ | ⟨mm4, v, a1, a2, a3, a4, a5, a6⟩
  · rw [a1, ri_k, b_77_55, w1, itp (by decide)] at st1
    rw [a2, ri_k, b_240_212, wr_of (x := 4 * l + 1) (by omega) (by omega), ck_t (by omega)] at st2
    have hm5 : MS B L (i + 2) c' (um mm4 255 (4 * l + 1) v) := a5.u255 (wr_of (by omega) (by omega))
    have g8 : MFl l c' mm (um mm4 255 (4 * l + 1) v) := (g7.trans (MF.fx (c := c') a7).fl (Int.le_refl _) (Int.le_refl _)).trans (MFl.u (l := l) (c := c') (by omega)) (Int.le_refl _) (Int.le_refl _)
    have y0 : um mm4 255 (4 * l + 1) v 255 (4 * l) = 4 := by rw [um_i (by omega), a7.1 255 (by decide)]; exact k0
    have y1 : um mm4 255 (4 * l + 1) v 255 (4 * l + 1) = v := um_s
    have y9 : um mm4 255 (4 * l + 1) v 246 19 = mm 246 19 := by rw [um_k (by decide), a7.2.1 19 (by decide)]; exact k9
    generalize um mm4 255 (4 * l + 1) v = mm5 at *
    have c4 : 3 * c' ≤ tS B L (i + 2) := by
      show 3 * c' ≤ tS B L (i + 1 + 1)
      omega
    rcases sim_if (e := e) (d := d) (d' := d') hv tb a4 hm5 c0 cc c4 l0 l1 (by rw [y9]; exact h19) a11 with ⟨j, m6, mm6, b1, b2, b3⟩ | ⟨j, m6, mm6, b1, b2, b3⟩
    · rw [b1, ri_k, b_77_62, w1, itp (by decide)] at st1
      rw [b2, rn_k, b_240_218] at st2
      exact Or.inl ⟨j, m6, mm6, st1, ⟨_, _, _, st2⟩, b3.line c0 cc ⟨a8, y0⟩ (by decide) (by decide) ⟨a9, y1⟩ a3.1 a3.2 a10 (cl.trans a6 (Int.le_refl _) (Int.le_refl _)) g8 y9⟩
    · rw [b1, ri_k, b_77_62, w0, itn (fun z => z rfl)] at st1
      rw [b2, rn_k, b_240_218] at st2
      obtain ⟨z1, z2, z3, z4, z5, z6⟩ := b3
      exact Or.inr ⟨j, m6, mm6, st1, ⟨_, _, _, st2⟩, z1, z2, (cl.trans a6 (Int.le_refl _) (Int.le_refl _)).trans z3 (Int.le_refl _) (Int.le_refl _), z4, z5, g8.trans z6 (Int.le_refl _) (Int.le_refl _)⟩
  · rw [a1, ri_k, b_77_55, w0, itn (fun z => z rfl)] at st1
    rw [a2, ri_k, b_240_212, wr_of (x := 4 * l + 1) (by omega) (by omega), ck_t (by omega)] at st2
    have rx : RX (tS B L (i + 1)) (um mm4 255 (4 * l + 1) v) := a4.u255
    have rg : Rng (um mm4 255 (4 * l + 1) v) := a5.um a3
    have g8 : MFl l c' mm (um mm4 255 (4 * l + 1) v) := (g7.trans a6.fl (Int.le_refl _) (Int.le_refl _)).trans (MFl.u (l := l) (c := c') (by omega)) (Int.le_refl _) (Int.le_refl _)
    obtain ⟨mm5, b1, b2, b3, b4⟩ := rx.cond (e := e) (d := d' + 18) (l := l) (c' := c') (x := 4 * l) rg (by omega) (by omega) (Int.le_refl _)
    rw [b1, rn_k, b_240_218] at st2
    exact Or.inr ⟨i + 1, m1, mm5, st1, ⟨_, _, _, st2⟩, p2.1, p2.2.1, cl, b2, b3, g8.trans b4 (Int.le_refl _) (Int.le_refl _)⟩
theorem body_4 (hv : e.2 = .null ∨ e.2 = .ref 10301) (tb : TB T B L) (h : CS T L n i c l m) (hm : MS B L i c' mm) (c0 : 0 ≤ c) (cc : c ≤ c') (c3 : 3 * c' ≤ tS B L i) (l0 : 0 ≤ l) (l1 : l < 10) (h19 : mm 246 19 = 0) (q : cW T L (tS T L i) = 4) : SIMl T B L n c c' l m mm (fun v m' => Z e (d + 23) 77 0 [.ref 179] [] m = ri v m') (fun mm' => ∃ u1 u2 u3, Z e (d' + 24) 240 0 [.ref 246, .int (iI (4 * l)), .retAddr 0, .retAddr 0] [] mm = Z e (d' + 24) 240 342 [.ref 246, u1, u2, u3] [] mm') := by
  have tr := tS_b (T := B) tb.1.1 i
  have l3 := tb.1.2
  have w0 : wr 0 = 0 := rfl
  have w1 : wr 1 = 1 := rfl
  have t := tS_n (B := B) tb.1.1 i
  have t2 := tS_n (B := B) tb.1.1 (i + 1)
  obtain ⟨mm1, st2, hm1, g1, g2, g3, g4, g5⟩ := M_line0 (e := e) (d := d' + 19) hm (by omega) (by omega) l0 l1
  have st1 : Z e (d + 23) 77 0 [.ref 179] [] m = _ := b_77_0
  have nm : ∀ (a : Nat) (x : Int), 10100 ≤ a → a < 10156 → txt a = txt (wtx x) → 3 ≤ x → x < 29 → Z e (d' + 23) 230 0 [.ref 246, .ref a, .retAddr 0, .retAddr 0] [] mm1 = ri (bi (cW T L (tS T L i) = x)) mm1 := fun a x a0 a1 ha x0 x1 => hm1.1.name (d := d' + 19) hv hm1.2.1 tb a0 a1 ha x0 x1
  have p0 : ∀ x : Int, 0 ≤ x → x < 32 → ¬ cW T L (tS T L i) = x → Z e (d + 22) 75 0 [.ref 179, .ref (10000 + x.toNat)] [] m = ri 0 m := fun x x0 x1 hx => h.1.pass0 (d := d + 21) x0 x1 hx
  have ps := h.1.pass (e := e) (d := d + 21) (x := 4) h.2.1 (by decide) (by decide) q
  obtain ⟨m1, e1, _, p2, _⟩ := h.adv (e := e) (d := d) ps.2
  have cl : CFl l c m m1 := by rw [e1]; exact CFl.adv _ _
  obtain ⟨mm2, r1, r2, r3⟩ := hm1.next (e := e) (d := d' + 21) tb.1.1 tb.1.2
  have g6 : MFl l c' mm mm2 := g1.trans (MF.fx (c := c') r3).fl (Int.le_refl _) (Int.le_refl _)
  rw [p0 3 (by decide) (by decide) (by omega), ri_k, b_77_7, w0, itn (fun z => z rfl), p0 7 (by decide) (by decide) (by omega), ri_k, b_77_25, w0, itn (fun z => z rfl), p0 8 (by decide) (by decide) (by omega), ri_k, b_77_44, w0, itn (fun z => z rfl), ps.1, ← e1, ri_k, b_77_78, w1, itp (by decide)] at st1
  rw [nm 10107 3 (by decide) (by decide) nm_txt.2.1 (by decide) (by decide), bi_f (by omega), ri_k, b_240_40, w0, itn (fun z => z rfl), nm 10108 7 (by decide) (by decide) nm_txt.2.2.1 (by decide) (by decide), bi_f (by omega), ri_k, b_240_78, w0, itn (fun z => z rfl), nm 10109 4 (by decide) (by decide) nm_txt.2.2.2.1 (by decide) (by decide), bi_t q, ri_k, b_240_117, w1, itp (by decide), r1, rn_k] at st2
  have x5 : wr (4 * l) = 4 * l := wr_of (by omega) (by omega)
  have nm2 := r2.1.name (e := e) (d := d' + 19) (a := 10110) (x := 5) hv r2.2.1 tb (by decide) (by decide) nm_txt.2.2.2.2.1 (by decide) (by decide)
  rw [b_240_124, nm2, ri_k, b_240_136, x5, ck_t (by omega), wr_bi] at st2
  have x1 : (m1 179 8) = cW T L (tS T L (i + 1)) := p2.1.1.2.1
  obtain ⟨kd, hkd⟩ : ∃ kd : Int, (if ¬ bi (cW T L (tS T L (i + 1)) = 5) = 0 then (1 : Int) else 2) = kd := ⟨_, rfl⟩
  rw [hkd] at st2
  have wk : wr kd = kd := by
    rw [← hkd]
    by_cases z : cW T L (tS T L (i + 1)) = 5
    · rw [bi_t z]; rfl
    · rw [bi_f z]; rfl
  have hm3 : MS B L (i + 1) c' (um mm2 255 (4 * l) kd) := r2.u255 wk
  have g7 : MFl l c' mm (um mm2 255 (4 * l) kd) := g6.trans (MFl.u (l := l) (c := c') (by omega)) (Int.le_refl _) (Int.le_refl _)
  have k0 : um mm2 255 (4 * l) kd 255 (4 * l) = kd := um_s
  have k1 : um mm2 255 (4 * l) kd 255 (4 * l + 1) = 0 := by rw [um_i (by omega), r3.1 255 (by decide)]; exact g2
  have k2 : um mm2 255 (4 * l) kd 255 (4 * l + 2) = c' := by rw [um_i (by omega), r3.1 255 (by decide)]; exact g3
  have k3 : um mm2 255 (4 * l) kd 255 (4 * l + 3) = c' := by rw [um_i (by omega), r3.1 255 (by decide)]; exact g4
  have k9 : um mm2 255 (4 * l) kd 246 19 = mm 246 19 := by rw [um_k (by decide), r3.2.1 19 (by decide)]; exact g5
  generalize um mm2 255 (4 * l) kd = mm3 at *
  have nm3 := hm3.1.name (e := e) (d := d' + 19) (a := 10110) (x := 5) hv hm3.2.1 tb (by decide) (by decide) nm_txt.2.2.2.2.1 (by decide) (by decide)
  have nm4 := hm3.1.name (e := e) (d := d' + 19) (a := 10111) (x := 6) hv hm3.2.1 tb (by decide) (by decide) nm_txt.2.2.2.2.2.1 (by decide) (by decide)
  have need : Z e (d' + 24) 240 153 [.ref 246, .int (iI (4 * l)), .retAddr 0, .retAddr 0] [.int (iI (bi (cW T L (tS T L (i + 1)) = 5))), .ref 246] mm3 = Z e (d' + 24) 240 171 [.ref 246, .int (iI (4 * l)), .retAddr 0, .retAddr 0] [.int (iI (if cW T L (tS T L (i + 1)) = 5 ∨ cW T L (tS T L (i + 1)) = 6 then 1 else 0)), .ref 246] mm3 := by
    rw [b_240_153, wr_bi]
    by_cases z : cW T L (tS T L (i + 1)) = 5
    · rw [bi_t z, itn (by decide), itp (Or.inl z)]
    · rw [bi_f z, itp rfl, nm4, ri_k, b_240_163, wr_bi]
      by_cases y : cW T L (tS T L (i + 1)) = 6
      · rw [bi_t y, itp (by decide), itp (Or.inr y)]
      · rw [bi_f y, itn (fun z => z rfl), itn (fun u => u.elim z y)]
  rw [nm3, ri_k, need, b_240_171] at st2
  have st3 : Z e (d + 22) 79 0 [.ref 179, .retAddr 0] [] m1 = _ := b_79_0 p2.1.word
  rw [x1] at st3
  by_cases z : cW T L (tS T L (i + 1)) = 5 ∨ cW T L (tS T L (i + 1)) = 6
  · obtain ⟨m2, e2, a1, a2, _⟩ := p2.adv (e := e) (d := d + 21) (p2.1.lt (by omega))
    have cl2 : CFl l c m1 m2 := by rw [e2]; exact CFl.adv _ _
    obtain ⟨m3, f1, f2, f3, f4, f5, f6, f7⟩ := C_line (e := e) (d := d + 21) (kd := kd) (nu := 0) a2 c0 (by omega) l0 l1 wk rfl
    have ek : (if ¬ wr (if cW T L (tS T L (i + 1)) = 5 then 1 else 0) = 0 then (1 : Int) else 2) = kd := by
      rw [← hkd]
      by_cases y : cW T L (tS T L (i + 1)) = 5
      · rw [bi_t y, itp y, w1]
      · rw [bi_f y, itn y, w0]
    have kb : 0 ≤ kd ∧ kd ≤ 6 := by
      rw [← hkd]
      by_cases y : cW T L (tS T L (i + 1)) = 5
      · rw [bi_t y]; decide
      · rw [bi_f y]; decide
    obtain ⟨mm4, s1, s2, s3⟩ := hm3.need1 (e := e) (d := d' + 20) tb.1.1 tb.1.2
    rw [itn (by omega), a1, rn_k, b_79_36, ek, f1, rn_k, b_79_53] at st3
    rw [st3, ri_k, b_77_85, ck_t (nbp_of (Or.inr rfl))] at st1
    rw [itp z, s1, rn_k, b_240_174] at st2
    refine Or.inl ⟨i + 2, m3, mm4, st1, ⟨_, _, _, st2⟩, plain_line (kd := kd) (nu := 0) f2 s2 c0 cc ?_ ⟨f4, ?_⟩ kb.1 kb.2 ⟨f5, ?_⟩ (by decide) (by decide) f6 f7 ?_ ?_ ((cl.trans cl2 (Int.le_refl _) (Int.le_refl _)).trans f3 (Int.le_refl _) (Int.le_refl _)) (g7.trans (MF.fx (c := c') s3).fl (Int.le_refl _) (Int.le_refl _)) ?_⟩
    · show 3 * c' ≤ tS B L (i + 1 + 1); omega
    · rw [s3.1 255 (by decide)]; exact k0
    · rw [s3.1 255 (by decide)]; exact k1
    · rw [s3.1 255 (by decide)]; exact k2
    · rw [s3.1 255 (by decide)]; exact k3
    · rw [s3.2.1 19 (by decide)]; exact k9
  · obtain ⟨mm4, s1, s2, s3, s4, _⟩ := hm3.need0 (e := e) (d := d' + 20)
    rw [itp (by omega)] at st3
    rw [st3, ri_k, b_77_85, ck_t (nbp_of (Or.inl rfl))] at st1
    rw [itn z, s1, rn_k, b_240_174] at st2
    exact Or.inr ⟨i + 1, m1, mm4, st1, ⟨_, _, _, st2⟩, p2.1, p2.2.1, cl, s2, s3, g7.trans s4.fl (Int.le_refl _) (Int.le_refl _)⟩
end SN
