/-! Reading: a line on both sides; all lines. -/
section SP
variable {e : List Int32 × Value} {d d' : Nat} {m m' mm mm' : zMm} {T B : Int → Int} {L : Int} {n i : Nat} {c c' l : Int}
theorem jor_w0 : ∀ k : Fin 32, jor 0 (wbit (k.val : Int)) = wbit (k.val : Int) := by decide
theorem jor_w {w : Int} (w0 : 0 ≤ w) (w1 : w < 32) : jor 0 (wbit w) = wbit w := by
  have q := jor_w0 ⟨w.toNat, by omega⟩
  rw [show (((⟨w.toNat, by omega⟩ : Fin 32).val : Nat) : Int) = w by show (w.toNat : Int) = w; omega] at q
  exact q
theorem tS_mono (l0 : 0 ≤ L) (i : Nat) : ∀ k : Nat, tS B L i ≤ tS B L (i + k) := by
  intro k
  induction k with
  | zero => exact Int.le_refl _
  | succ k ih =>
    have := tS_n (B := B) l0 (i + k)
    show tS B L i ≤ tS B L (i + k + 1)
    omega
theorem body_kinds (hv : e.2 = .null ∨ e.2 = .ref 10301) (tb : TB T B L) (h : CS T L n i c l m) (hm : MS B L i c' mm) (c0 : 0 ≤ c) (cc : c ≤ c') (c3 : 3 * c' ≤ tS B L i) (l0 : 0 ≤ l) (l1 : l < 10) (h19 : mm 246 19 = 0) (q3 : ¬ cW T L (tS T L i) = 3) (q7 : ¬ cW T L (tS T L i) = 7) (q8 : ¬ cW T L (tS T L i) = 8) (q4 : ¬ cW T L (tS T L i) = 4) : SIMl T B L n c c' l m mm (fun v m' => Z e (d + 23) 77 0 [.ref 179] [] m = ri v m') (fun mm' => ∃ u1 u2 u3, Z e (d' + 24) 240 0 [.ref 246, .int (iI (4 * l)), .retAddr 0, .retAddr 0] [] mm = Z e (d' + 24) 240 342 [.ref 246, u1, u2, u3] [] mm') := by
  have tr := tS_b (T := B) tb.1.1 i
  have l3 := tb.1.2
  have w0 : wr 0 = 0 := rfl
  have w1 : wr 1 = 1 := rfl
  have t := tS_n (B := B) tb.1.1 i
  obtain ⟨mm1, st2, hm1, g1, g2, g3, g4, g5⟩ := M_line0 (e := e) (d := d' + 19) hm (by omega) (by omega) l0 l1
  have st1 : Z e (d + 23) 77 0 [.ref 179] [] m = _ := b_77_0
  have nm : ∀ (a : Nat) (x : Int), 10100 ≤ a → a < 10156 → txt a = txt (wtx x) → 3 ≤ x → x < 29 → Z e (d' + 23) 230 0 [.ref 246, .ref a, .retAddr 0, .retAddr 0] [] mm1 = ri (bi (cW T L (tS T L i) = x)) mm1 := fun a x a0 a1 ha x0 x1 => hm1.1.name (d := d' + 19) hv hm1.2.1 tb a0 a1 ha x0 x1
  have p0 : ∀ x : Int, 0 ≤ x → x < 32 → ¬ cW T L (tS T L i) = x → Z e (d + 22) 75 0 [.ref 179, .ref (10000 + x.toNat)] [] m = ri 0 m := fun x x0 x1 hx => h.1.pass0 (d := d + 21) x0 x1 hx
  have mk := M_kind (e := e) (d := d' + 18) hv tb hm1.1 hm1.2.1
  have wb := cW_b (T := T) (L := L) (s := tS T L i)
  have ke := kac_e wb.1 wb.2
  have x1 : m 179 8 = cW T L (tS T L i) := h.1.1.2.1
  have st3 : Z e (d + 22) 80 0 [.ref 179, .retAddr 0, .retAddr 0] [] m = _ := b_80_0
  rw [b_80_4 h.1.word h.1.word, w0, itp (by decide), x1, wr_of (x := wbit (cW T L (tS T L i))) (by omega) (by omega), jor_w wb.1 wb.2] at st3
  rw [p0 3 (by decide) (by decide) q3, ri_k, b_77_7, w0, itn (fun z => z rfl), p0 7 (by decide) (by decide) q7, ri_k, b_77_25, w0, itn (fun z => z rfl), p0 8 (by decide) (by decide) q8, ri_k, b_77_44, w0, itn (fun z => z rfl), p0 4 (by decide) (by decide) q4, ri_k, b_77_78, w0, itn (fun z => z rfl)] at st1
  rw [nm 10107 3 (by decide) (by decide) nm_txt.2.1 (by decide) (by decide), bi_f q3, ri_k, b_240_40, w0, itn (fun z => z rfl), nm 10108 7 (by decide) (by decide) nm_txt.2.2.1 (by decide) (by decide), bi_f q7, ri_k, b_240_78, w0, itn (fun z => z rfl), nm 10109 4 (by decide) (by decide) nm_txt.2.2.2.1 (by decide) (by decide), bi_f q4, ri_k, b_240_117, w0, itn (fun z => z rfl), nm 10112 8 (by decide) (by decide) nm_txt.2.2.2.2.2.2.1 (by decide) (by decide), bi_f q8, ri_k, b_240_184, w0, itn (fun z => z rfl), mk, ri_k, b_240_225, wr_of (x := wbit (cW T L (tS T L i))) (by omega) (by omega)] at st2
  have idle : ∀ (j : Nat) (m5 mm5 : zMm) (u2 u3 : Value), Z e (d + 22) 80 0 [.ref 179, .retAddr 0, .retAddr 0] [] m = ri 0 m5 → Z e (d' + 24) 240 0 [.ref 246, .int (iI (4 * l)), .retAddr 0, .retAddr 0] [] mm = Z e (d' + 24) 240 337 [.ref 246, .int (iI (4 * l)), u2, u3] [] mm5 → LBAD T B L n j c c' l m m5 mm mm5 → SIMl T B L n c c' l m mm (fun v m' => Z e (d + 23) 77 0 [.ref 179] [] m = ri v m') (fun mm' => ∃ u1 u2 u3, Z e (d' + 24) 240 0 [.ref 246, .int (iI (4 * l)), .retAddr 0, .retAddr 0] [] mm = Z e (d' + 24) 240 342 [.ref 246, u1, u2, u3] [] mm') := by
    intro j m5 mm5 u2 u3 a1 a2 ⟨b1, b2, b3, b4, b5, b6⟩
    obtain ⟨mm6, f1, f2, f3, f4⟩ := b4.cond (e := e) (d := d' + 18) (l := l) (c' := c') (x := 4 * l) b5 (by omega) (by omega) (Int.le_refl _)
    rw [b_240_337, f1, rn_k] at a2
    rw [a1, ri_k, b_77_90, w0, itn (fun z => z rfl)] at st1
    exact Or.inr ⟨j, m5, mm6, st1, ⟨_, _, _, a2⟩, b1, b2, b3, f2, f3, b6.trans f4 (Int.le_refl _) (Int.le_refl _)⟩
  by_cases z : wbit (cW T L (tS T L i)) = 0
  · obtain ⟨mm2, s1, s2, s3, s4, _⟩ := hm1.need0 (e := e) (d := d' + 20)
    obtain ⟨mm3, t1, t2, t3, t4⟩ := s2.kinds (e := e) (d := d' + 19) (l := l) (c' := c') (b := wbit (cW T L (tS T L i))) (u3 := .retAddr 0) s3 l0 l1 (wr_of (by omega) (by omega))
    rw [itp z] at st3
    rw [itn (by omega), s1, rn_k] at st2
    exact idle i m mm3 _ _ st3 (st2.trans t1) ⟨h.1, h.2.1, CFl.refl, t2, t3, (g1.trans s4.fl (Int.le_refl _) (Int.le_refl _)).trans t4 (Int.le_refl _) (Int.le_refl _)⟩
  · obtain ⟨m2, e2, a1, a2, _⟩ := h.adv (e := e) (d := d + 21) (h.1.lt (fun y => z (by rw [y]; rfl)))
    have cl : CFl l c m m2 := by rw [e2]; exact CFl.adv _ _
    obtain ⟨mm2, s1, s2, s3⟩ := hm1.need1 (e := e) (d := d' + 20) tb.1.1 tb.1.2
    rw [itn z, a1, rn_k] at st3
    rw [itp (by omega), s1, rn_k] at st2
    have g : MFl l c' mm mm2 := g1.trans (MF.fx (c := c') s3).fl (Int.le_refl _) (Int.le_refl _)
    have g19 : mm2 246 19 = mm 246 19 := by rw [s3.2.1 19 (by decide)]; exact g5
    rcases kinds_loop (e := e) (d := d + 20) (d' := d' + 18) hv tb c0 (by omega) (by omega) (by omega) l0 l1 (n - (i + 1)) (i + 1) (wbit (cW T L (tS T L i))) 0 (.retAddr 0) m2 mm2 (Nat.le_refl _) (Int.le_refl _) (by omega) ke.2.1 ke.2.2.1 a2 s2 with ⟨j, m3, mm3, kd, nu, u2, u3', ij, t1, t2, t3, t4, t5, t6, t7, t8, t9, t10, t11, t12, t13⟩ | ⟨j, m3, mm3, u2, u3', t1, t2, t3, t4, t5, t6, t7, t8⟩
    · have c4 : 3 * c' ≤ tS B L j := by
        have z := tS_mono (B := B) tb.1.1 i (j - i)
        rw [show i + (j - i) = j by omega] at z
        omega
      have y19 : mm3 246 19 = mm 246 19 := t13.trans g19
      rw [st3.trans t1, ri_k, b_77_90, w1, itp (by decide)] at st1
      have st4 := st2.trans t2
      rw [b_240_337] at st4
      rcases sim_if (e := e) (d := d) (d' := d') hv tb t3 t4 c0 cc c4 l0 l1 (by rw [y19]; exact h19) t12 with ⟨j2, m6, mm6, b1, b2, b3⟩ | ⟨j2, m6, mm6, b1, b2, b3⟩
      · rw [b1, ri_k, b_77_97, w1, itp (by decide)] at st1
        rw [b2, rn_k] at st4
        exact Or.inl ⟨j2, m6, mm6, st1, ⟨_, _, _, st4⟩, b3.line c0 cc t7 t8.1 t8.2 t9 t10.1 t10.2 t11 (cl.trans t5 (Int.le_refl _) (Int.le_refl _)) (g.trans t6 (Int.le_refl _) (Int.le_refl _)) y19⟩
      · rw [b1, ri_k, b_77_97, w0, itn (fun z => z rfl)] at st1
        rw [b2, rn_k] at st4
        obtain ⟨z1, z2, z3, z4, z5, z6⟩ := b3
        exact Or.inr ⟨j2, m6, mm6, st1, ⟨_, _, _, st4⟩, z1, z2, (cl.trans t5 (Int.le_refl _) (Int.le_refl _)).trans z3 (Int.le_refl _) (Int.le_refl _), z4, z5, (g.trans t6 (Int.le_refl _) (Int.le_refl _)).trans z6 (Int.le_refl _) (Int.le_refl _)⟩
    · exact idle j m3 mm3 _ _ (st3.trans t1) (st2.trans t2) ⟨t3, t4, cl.trans t5 (Int.le_refl _) (Int.le_refl _), t6, t7, g.trans t8 (Int.le_refl _) (Int.le_refl _)⟩
theorem body (hv : e.2 = .null ∨ e.2 = .ref 10301) (tb : TB T B L) (h : CS T L n i c l m) (hm : MS B L i c' mm) (c0 : 0 ≤ c) (cc : c ≤ c') (c3 : 3 * c' ≤ tS B L i) (l0 : 0 ≤ l) (l1 : l < 10) (h19 : mm 246 19 = 0) : SIMl T B L n c c' l m mm (fun v m' => Z e (d + 23) 77 0 [.ref 179] [] m = ri v m') (fun mm' => ∃ u1 u2 u3, Z e (d' + 24) 240 0 [.ref 246, .int (iI (4 * l)), .retAddr 0, .retAddr 0] [] mm = Z e (d' + 24) 240 342 [.ref 246, u1, u2, u3] [] mm') := by
  by_cases q3 : cW T L (tS T L i) = 3
  · exact body_3 hv tb h hm c0 cc c3 l0 l1 h19 q3
  · by_cases q7 : cW T L (tS T L i) = 7
    · exact body_7 hv tb h hm c0 cc c3 l0 l1 h19 q7
    · by_cases q8 : cW T L (tS T L i) = 8
      · exact body_8 hv tb h hm c0 cc c3 l0 l1 h19 q8
      · by_cases q4 : cW T L (tS T L i) = 4
        · exact body_4 hv tb h hm c0 cc c3 l0 l1 h19 q4
        · exact body_kinds hv tb h hm c0 cc c3 l0 l1 h19 q3 q7 q8 q4
theorem LN.cg {q c1 c1' : Int} (h : LN m mm c c' q) (q0 : 0 ≤ q) (hq : q < l) (f : CFl l c m m') (g5 : ∀ p, p < 4 * l → mm' 255 p = mm 255 p) (g6 : ∀ p, p < c' → mm' 256 p = mm 256 p) (hc : c ≤ c1) (hc' : c' ≤ c1') : LN m' mm' c1 c1' q := by
  have a := f.2.2.2.1 q hq
  obtain ⟨h1, h2, h3, h4, h5⟩ := h
  unfold LN
  rw [a.1, a.2.1, a.2.2.1, a.2.2.2, g5 (4 * q) (by omega), g5 (4 * q + 1) (by omega), g5 (4 * q + 2) (by omega), g5 (4 * q + 3) (by omega)]
  refine ⟨h1, h2, ⟨h3.1, by omega⟩, ⟨h4.1, by omega⟩, ?_⟩
  rcases h5 with h5 | h5
  · exact Or.inl h5
  · exact Or.inr ⟨h5.1, h5.2.1, semw_cg h5.2.2 (fun p _ hp => f.2.2.2.2 p (by omega)) (fun p _ hp => g6 p (by omega))⟩
/-- what stays in the reference while it reads -/
def MFa (m m' : zMm) : Prop := (∀ k, ¬ (k = 246 ∨ k = 255 ∨ k = 256) → m' k = m k) ∧ (∀ i, ¬ (15 ≤ i ∧ i ≤ 21) → m' 246 i = m 246 i)
theorem MFl.a (h : MFl l c m m') : MFa m m' := ⟨h.1, fun i hi => h.2.1 i (by omega)⟩
theorem MFa.trans {m2 : zMm} (h : MFa m m') (h2 : MFa m' m2) : MFa m m2 := ⟨fun k hk => (h2.1 k hk).trans (h.1 k hk), fun k hk => (h2.2 k hk).trans (h.2 k hk)⟩
theorem MFa.u {i x : Int} (hi : 15 ≤ i ∧ i ≤ 21) : MFa m (um m 246 i x) := ⟨fun k hk => um_r (by omega), fun k hk => um_i (by omega)⟩
theorem RR.end0 (h : RR B L i m) (tb : TB T B L) : (m 246 17 = 0) ↔ cW T L (tS T L i) = 0 := by
  have sb := tS_b (T := B) tb.1.1 i
  rw [tb.ts i, h.2.2.1]
  unfold tokK cW
  by_cases z : tS B L i = L
  · rw [cif_t z, cif_t z]
  · rw [cif_f z, cif_f z]
    constructor
    · intro w
      by_cases u : isL (B (tS B L i))
      · rw [cif_t u] at w; omega
      · rw [cif_f u] at w
        by_cases v : isD (B (tS B L i))
        · rw [cif_t v] at w; omega
        · rw [cif_f v] at w; omega
    · intro w
      exfalso
      by_cases u : isD (T (tS B L i))
      · rw [cif_t u] at w; omega
      · rw [cif_f u] at w
        rcases wfn_b (T := T) (s := tS B L i) (t := tokE T L (tS B L i)) 32 0 (by decide) (by decide) with v | v
        · have w' : wfn T (tS B L i) (tokE T L (tS B L i)) 32 0 = 0 := w
          omega
        · have w' : wfn T (tS B L i) (tokE T L (tS B L i)) 32 0 = 0 := w
          rw [w'] at v
          have l := v.2.2.1
          have lt := (tokE_b (B := T) (L := L) (s := tS B L i) sb.2).2.2 (by omega)
          have l0 : (txt (wtx 0)).length = 0 := by decide
          omega
theorem MS.u21 {x : Int} (h : MS B L i c' m) (hx : wr x = x) : MS B L i c' (um m 246 21 x) := by
  obtain ⟨⟨a1, a2, a3, a4, a5, a6⟩, h2, h3⟩ := h
  refine ⟨⟨?_, ?_, ?_, ?_, ?_, ?_⟩, h2.um hx, ?_⟩
  · rw [um_i (by decide)]; exact a1
  · rw [um_i (by decide)]; exact a2
  · rw [um_i (by decide)]; exact a3
  · rw [um_i (by decide)]; exact a4
  · rw [um_r (by decide)]; exact a5
  · rw [um_i (by decide)]; exact a6
  · rw [um_i (by decide)]; exact h3
/-- the reference ends after a fault -/
theorem RX.lines {s : Int} (h : RX s mm) (hr : Rng mm) (h1 : 0 ≤ mm 246 21) (h2 : mm 246 21 ≤ 10) : ∃ mm', Z e (d + 1) 241 78 [.ref 246] [] mm = ri 0 mm' ∧ mm' 246 15 = s ∧ Rng mm' ∧ MFa mm mm' := by
  have w18 : um mm 246 21 (mm 246 21 + 1) 246 18 = 1 := by rw [um_i (by decide)]; exact h.2
  refine ⟨um mm 246 21 (mm 246 21 + 1), ?_, ?_, hr.um (wr_of (by omega) (by omega)), MFa.u (by decide)⟩
  · rw [b_241_78]
    refine (b_241_29).trans ?_
    rw [w18, show wr 1 = 1 from rfl, itn (fun z => absurd z.1 (by decide)), b_241_91, w18, show wr 1 = 1 from rfl, itn (by decide)]
  · rw [um_i (by decide)]; exact h.1
/-- both have read all lines -/
def PG (T B : Int → Int) (L : Int) (n : Nat) (m mm : zMm) : Prop := ∃ (i : Nat) (c c' l : Int), CS T L n i c l m ∧ MS B L i c' mm ∧ mm 246 21 = l ∧ (0 ≤ l ∧ l ≤ 10) ∧ (0 ≤ c ∧ c ≤ c' ∧ c' ≤ 100) ∧ (∀ q, 0 ≤ q → q < l → LN m mm c c' q)
def PB (T B : Int → Int) (L : Int) (n : Nat) (m mm : zMm) : Prop := ∃ (j : Nat), RC T L n j m ∧ Rng m ∧ mm 246 15 = tS B L j ∧ Rng mm
theorem sim_lines (hv : e.2 = .null ∨ e.2 = .ref 10301) (tb : TB T B L) : ∀ (N : Nat) (i : Nat) (c c' l : Int) (m mm : zMm), 10 - l ≤ N → CS T L n i c l m → MS B L i c' mm → mm 246 21 = l → mm 246 19 = 0 → 0 ≤ l → l ≤ 10 → 0 ≤ c → c ≤ c' → 3 * c' ≤ tS B L i → (∀ q, 0 ≤ q → q < l → LN m mm c c' q) → ∃ (v : Int) (m' mm' : zMm), Z e (d + 24) 66 28 [.ref 179, .int (iI l)] [] m = ri v m' ∧ Z e (d' + 25) 241 29 [.ref 246] [] mm = ri v mm' ∧ CFl 0 0 m m' ∧ MFa mm mm' ∧ ((v = 1 ∧ PG T B L n m' mm') ∨ (v = 0 ∧ PB T B L n m' mm')) := by
  have w0 : wr 0 = 0 := rfl
  have w1 : wr 1 = 1 := rfl
  intro N
  induction N with
  | zero =>
    intro i c c' l m mm hN h hm h21 h19 l0 l1 c0 cc c3 hL
    have tr := tS_b (T := B) tb.1.1 i
    have l3 := tb.1.2
    have st1 : Z e (d + 24) 66 28 [.ref 179, .int (iI l)] [] m = _ := b_66_28 h.1.word
    have st2 : Z e (d' + 25) 241 29 [.ref 246] [] mm = _ := b_241_29
    have e0 := hm.1.end0 tb
    have lt : l = 10 := by omega
    rw [h.1.1.2.1, wr_of (x := l) (by omega) (by omega)] at st1
    rw [hm.2.1 246 18, hm.2.1 246 17, hm.2.1 246 21, hm.1.2.2.2.1, h21] at st2
    by_cases q : cW T L (tS T L i) = 0
    · rw [itn (fun z => z q)] at st1
      rw [itn (fun z => z.2 (e0.mpr q)), b_241_91, hm.2.1 246 18, hm.1.2.2.2.1, itp rfl] at st2
      exact ⟨1, m, mm, st1, st2, CFl.refl, MFl.refl (l := 0) (c := 0) |>.a, Or.inl ⟨rfl, i, c, c', l, h, hm, h21, ⟨l0, l1⟩, ⟨c0, cc, by omega⟩, hL⟩⟩
    · rw [itp q, itn (by omega)] at st1
      rw [itp ⟨rfl, fun z => q (e0.mp z)⟩, itp lt, um_s, w1, itn (by decide)] at st2
      have y18 : um mm 246 18 1 246 18 = 1 := um_s
      replace st2 := st2.trans b_241_29
      rw [y18, w1, itn (fun z => absurd z.1 (by decide)), b_241_91, y18, w1, itn (by decide)] at st2
      exact ⟨0, m, _, st1, st2, CFl.refl, MFa.u (by decide), Or.inr ⟨rfl, i, h.1, h.2.1, by rw [um_i (by decide)]; exact hm.1.1, hm.2.1.um rfl⟩⟩
  | succ N ih =>
    intro i c c' l m mm hN h hm h21 h19 l0 l1 c0 cc c3 hL
    by_cases l9 : l = 10
    · exact ih i c c' l m mm (by omega) h hm h21 h19 l0 l1 c0 cc c3 hL
    have tr := tS_b (T := B) tb.1.1 i
    have l3 := tb.1.2
    have st1 : Z e (d + 24) 66 28 [.ref 179, .int (iI l)] [] m = _ := b_66_28 h.1.word
    have st2 : Z e (d' + 25) 241 29 [.ref 246] [] mm = _ := b_241_29
    have e0 := hm.1.end0 tb
    have self : um mm 246 18 0 = mm := um_self hm.1.2.2.2.1
    rw [h.1.1.2.1, wr_of (x := l) (by omega) (by omega)] at st1
    rw [hm.2.1 246 18, hm.2.1 246 17, hm.2.1 246 21, hm.1.2.2.2.1, h21, itn l9, self, h21, hm.2.1 246 18, hm.1.2.2.2.1] at st2
    by_cases q : cW T L (tS T L i) = 0
    · rw [itn (fun z => z q)] at st1
      rw [itn (fun z => z.2 (e0.mpr q)), b_241_91, hm.2.1 246 18, hm.1.2.2.2.1, itp rfl] at st2
      exact ⟨1, m, mm, st1, st2, CFl.refl, MFl.refl (l := 0) (c := 0) |>.a, Or.inl ⟨rfl, i, c, c', l, h, hm, h21, ⟨l0, l1⟩, ⟨c0, cc, by omega⟩, hL⟩⟩
    · rw [itp q, itp (by omega)] at st1
      rw [itp ⟨rfl, fun z => q (e0.mp z)⟩, itp rfl] at st2
      rcases body (e := e) (d := d) (d' := d') hv tb h hm c0 cc c3 l0 (by omega) h19 with ⟨j, m1, mm1, a1, ⟨u1, u2, u3, a2⟩, c1, c1', b1, b2, b3, b4, b5, b6, b7, b8, b9⟩ | ⟨j, m1, mm1, a1, ⟨u1, u2, u3, a2⟩, b1, b2, b3, b4, b5, b6⟩
      · have y21 : mm1 246 21 = l := by rw [b4.2.1 21 (by decide)]; exact h21
        have sg := b2.1.sign (x := 29) (c := 59) tb (by decide) (by decide) wtx_p.1 (by decide)
        have tj := tS_n (B := B) tb.1.1 j
        rw [a1, ri_k, b_66_48, w1, itp (by decide)] at st1
        rw [a2, b_240_342, ck_t (b2.1.ckk b2.2.1 tb), b2.2.1 246 18, b2.2.1 246 17, b2.2.1 246 15, b2.2.1 249 _, show wr 59 = 59 from rfl] at st2
        by_cases p : cW T L (tS T L j) = 29
        · have ps := b1.1.pass (e := e) (d := d + 22) (x := 29) b1.2.1 (by decide) (by decide) p
          obtain ⟨m2, e2, _, p2, _⟩ := b1.adv (e := e) (d := d) ps.2
          obtain ⟨mm2, r1, r2, r3⟩ := b2.need1 (e := e) (d := d' + 20) tb.1.1 tb.1.2
          have z21 : mm2 246 21 = l := by rw [r3.2.1 21 (by decide)]; exact y21
          rw [ps.1, ← e2, ri_k, b_66_58, w1, itn (by decide)] at st1
          rw [itp (sg.mpr p), r1, rn_k, b_240_352, rn_k, b_241_78, z21] at st2
          have cl : CFl (l + 1) c1 m1 m2 := by rw [e2]; exact CFl.adv _ _
          have g5 : ∀ p, um mm2 246 21 (l + 1) 255 p = mm1 255 p := fun p => by rw [um_k (by decide), r3.1 255 (by decide)]
          have g6 : ∀ p, um mm2 246 21 (l + 1) 256 p = mm1 256 p := fun p => by rw [um_k (by decide), r3.1 256 (by decide)]
          obtain ⟨v, m3, mm3, s1, s2, s3, s4, s5⟩ := ih (j + 1) c1 c1' (l + 1) m2 (um mm2 246 21 (l + 1)) (by omega) p2 (r2.u21 (wr_of (by omega) (by omega))) um_s (by rw [um_i (by decide), r3.2.1 19 (by decide), b9]; exact h19) (by omega) (by omega) (by omega) (by omega) (by omega) (fun q q0 q1 => by
            refine LN.cg (l := l + 1) ?_ q0 q1 cl (fun p _ => g5 p) (fun p _ => g6 p) (Int.le_refl _) (Int.le_refl _)
            by_cases z : q = l
            · rw [z]; exact b8
            · exact LN.cg (l := l) (hL q q0 (by omega)) q0 (by omega) b3 b4.2.2.1 b4.2.2.2 b5 (by omega))
          refine ⟨v, m3, mm3, st1.trans s1, st2.trans s2, ?_, ?_, s5⟩
          · exact (((CFl.refl (l := 0) (c := 0)).trans b3 l0 c0).trans cl (by omega) (by omega)).trans s3 (Int.le_refl _) (Int.le_refl _)
          · exact ((b4.a.trans ((MF.fx (c := c') r3).fl (l := 0)).a).trans (MFa.u (by decide))).trans s4
        · obtain ⟨mm2, r1, r2, r3, r4, _⟩ := b2.need0 (e := e) (d := d' + 20)
          have z21 : mm2 246 21 = l := by rw [r4.2.1 21 (by decide)]; exact y21
          obtain ⟨mm3, s1, s2, s3, s4⟩ := r2.lines (e := e) (d := d' + 24) r3 (by omega) (by omega)
          rw [b1.1.pass0 (by decide) (by decide) p, ri_k, b_66_58, w0, itp rfl] at st1
          rw [itn (fun z => p (sg.mp z)), r1, rn_k, b_240_352, rn_k, s1] at st2
          refine ⟨0, m1, mm3, st1, st2, (CFl.refl (l := 0) (c := 0)).trans b3 l0 c0, (b4.a.trans (r4.fl (l := 0)).a).trans s4, Or.inr ⟨rfl, j, b1.1, b1.2.1, s2, s3⟩⟩
      · have y21 : mm1 246 21 = l := by rw [b6.2.1 21 (by decide)]; exact h21
        obtain ⟨mm3, s1, s2, s3, s4⟩ := b4.lines (e := e) (d := d' + 24) b5 (by omega) (by omega)
        rw [a1, ri_k, b_66_48, w0, itn (fun z => z rfl)] at st1
        rw [a2, b_240_342, ck_t (b4.ckk b5), b4.need b5, rn_k, b_240_352, rn_k, s1] at st2
        refine ⟨0, m1, mm3, st1, st2, (CFl.refl (l := 0) (c := 0)).trans b3 l0 c0, b6.a.trans s4, Or.inr ⟨rfl, j, b1, b2, s2, s3⟩⟩
end SP
