/-! Reading: kinds. -/
section SO2
variable {e : List Int32 × Value} {d d' : Nat} {m m' mm mm' : zMm} {T B : Int → Int} {L : Int} {n i : Nat} {c c' l : Int}
def kac (w j : Int) : Int := if 16 ≤ w ∧ w < 16 + j then wbit w else 0
theorem kac_f : ∀ (k : Fin 32) (j : Fin 7), jor (kac (k.val : Int) (j.val : Int)) (if (k.val : Int) = 16 + (j.val : Int) then jshl 1 (j.val : Int) else 0) = kac (k.val : Int) ((j.val : Int) + 1) := by decide
theorem kac_7 : ∀ (k : Fin 32), kac (k.val : Int) 7 = wbit (k.val : Int) ∧ 0 ≤ wbit (k.val : Int) ∧ wbit (k.val : Int) < 128 ∧ kac (k.val : Int) 0 = 0 := by decide
theorem kac_s {w j : Int} (w0 : 0 ≤ w) (w1 : w < 32) (j0 : 0 ≤ j) (j1 : j < 7) : jor (kac w j) (if w = 16 + j then jshl 1 j else 0) = kac w (j + 1) := by
  have q := kac_f ⟨w.toNat, by omega⟩ ⟨j.toNat, by omega⟩
  rw [show (((⟨w.toNat, by omega⟩ : Fin 32).val : Nat) : Int) = w by show (w.toNat : Int) = w; omega, show (((⟨j.toNat, by omega⟩ : Fin 7).val : Nat) : Int) = j by show (j.toNat : Int) = j; omega] at q
  exact q
theorem kac_e {w : Int} (w0 : 0 ≤ w) (w1 : w < 32) : kac w 7 = wbit w ∧ 0 ≤ wbit w ∧ wbit w < 128 ∧ kac w 0 = 0 := by
  have q := kac_7 ⟨w.toNat, by omega⟩
  rw [show (((⟨w.toNat, by omega⟩ : Fin 32).val : Nat) : Int) = w by show (w.toNat : Int) = w; omega] at q
  exact q
theorem M_kind (hv : e.2 = .null ∨ e.2 = .ref 10301) (tb : TB T B L) (hm : RR B L i mm) (hr : Rng mm) : Z e (d + 5) 238 0 [.ref 246, .retAddr 0, .retAddr 0] [] mm = ri (wbit (cW T L (tS T L i))) mm := by
  have wb := cW_b (T := T) (L := L) (s := tS T L i)
  have nm : ∀ (j : Int), 0 ≤ j → j < 7 → Z e (d + 4) 230 0 [.ref 246, .ref (10100 + j.toNat), .retAddr 0, .retAddr 0] [] mm = ri (bi (cW T L (tS T L i) = 16 + j)) mm := fun j j0 j1 => by
    have tx := nm_txt.1 ⟨j.toNat, by omega⟩
    rw [show (((⟨j.toNat, by omega⟩ : Fin 7).val : Nat) : Int) = j by show (j.toNat : Int) = j; omega] at tx
    exact hm.name hv hr tb (by omega) (by omega) tx (by omega) (by omega)
  have ke := kac_e wb.1 wb.2
  generalize cW T L (tS T L i) = w at *
  have loop : ∀ (N : Nat) (j : Int), j + N = 7 → 0 ≤ j → Z e (d + 5) 238 4 [.ref 246, .int (iI (kac w j)), .int (iI j)] [] mm = ri (wbit w) mm := by
    intro N
    induction N with
    | zero =>
      intro j hj j0
      have : j = 7 := by omega
      subst this
      rw [b_238_4, show wr 7 = 7 from rfl, itn (by decide), ke.1]
    | succ N ih =>
      intro j hj j0
      have nx := ih (j + 1) (by omega) (by omega)
      have st : Z e (d + 5) 238 4 [.ref 246, .int (iI (kac w j)), .int (iI j)] [] mm = _ := b_238_4
      rw [wr_of (x := j) (by omega) (by omega), itp (by omega), ck_t (by omega), nm j j0 (by omega), ri_k, b_238_21, wr_bi] at st
      rw [st, ← nx, ← kac_s wb.1 wb.2 j0 (by omega)]
      by_cases q : w = 16 + j
      · rw [bi_t q, itp (by decide), itp q]
      · rw [bi_f q, itn (fun z => z rfl), itn q]
  rw [b_238_0]
  have := loop 7 0 (by decide) (by decide)
  rw [ke.2.2.2] at this
  exact this
theorem jor_00 : jor 0 0 = 0 := by decide
theorem RX.kind {s : Int} (h : RX s mm) (hr : Rng mm) : Z e (d + 5) 238 0 [.ref 246, .retAddr 0, .retAddr 0] [] mm = ri 0 mm := by
  have loop : ∀ (N : Nat) (j : Int), j + N = 7 → 0 ≤ j → Z e (d + 5) 238 4 [.ref 246, .int (iI 0), .int (iI j)] [] mm = ri 0 mm := by
    intro N
    induction N with
    | zero =>
      intro j hj j0
      have : j = 7 := by omega
      subst this
      rw [b_238_4, show wr 7 = 7 from rfl, itn (by decide)]
    | succ N ih =>
      intro j hj j0
      have nx := ih (j + 1) (by omega) (by omega)
      have st : Z e (d + 5) 238 4 [.ref 246, .int (iI 0), .int (iI j)] [] mm = _ := b_238_4
      rw [wr_of (x := j) (by omega) (by omega), itp (by omega), ck_t (by omega), h.name hr (by omega) (by omega), ri_k, b_238_21, show wr 0 = 0 from rfl, itn (fun z => z rfl), jor_00] at st
      rw [st, nx]
  rw [b_238_0]
  exact loop 7 0 (by decide) (by decide)
theorem jor_128 {a b : Int} (a0 : 0 ≤ a) (a1 : a < 128) (b0 : 0 ≤ b) (b1 : b < 128) : 0 ≤ jor a b ∧ jor a b < 128 := by
  rw [jor_n a0 (by omega) b0 (by omega)]
  have := Nat.or_lt_two_pow (x := a.toNat) (y := b.toNat) (n := 7) (by omega) (by omega)
  omega
/-- the reference behind a fault among the kinds -/
theorem RX.kinds {s b : Int} {u3 : Value} (h : RX s mm) (hr : Rng mm) (l0 : 0 ≤ l) (l1 : l < 10) (hb : wr b = b) : ∃ mm', Z e (d + 5) 240 239 [.ref 246, .int (iI (4 * l)), .int (iI b), u3] [] mm = Z e (d + 5) 240 337 [.ref 246, .int (iI (4 * l)), .int (iI b), u3] [] mm' ∧ RX s mm' ∧ Rng mm' ∧ MFl l c' mm mm' := by
  have w0 : wr 0 = 0 := rfl
  have h1 : RX s (um (um mm 255 (4 * l) 6) 255 (4 * l + 1) b) := h.u255.u255
  have hr1 : Rng (um (um mm 255 (4 * l) 6) 255 (4 * l + 1) b) := (hr.um rfl).um hb
  refine ⟨_, ?_, h1, hr1, (MFl.u (l := l) (c := c') (by omega)).trans (MFl.u (l := l) (c := c') (by omega)) (Int.le_refl _) (Int.le_refl _)⟩
  have st : Z e (d + 5) 240 239 [.ref 246, .int (iI (4 * l)), .int (iI b), u3] [] mm = _ := b_240_239
  rw [h.name hr (by decide) (by decide), ri_k, b_240_245, w0, itn (fun z => z rfl), b_240_277, h.name hr (by decide) (by decide), ri_k, b_240_289, w0, itn (fun z => z rfl), wr_of (x := 4 * l) (by omega) (by omega), wr_of (x := 4 * l + 1) (by omega) (by omega), ck_t (by omega), ck_t (by omega), h1.name hr1 (by decide) (by decide), ri_k, b_240_316, w0, itp rfl, h1.name hr1 (by decide) (by decide), ri_k, b_240_326, w0, itn (fun z => z rfl), b_240_334, h1.need hr1, rn_k] at st
  exact st
/-- the class has passed kinds; the reference too -/
theorem kinds_loop (hv : e.2 = .null ∨ e.2 = .ref 10301) (tb : TB T B L) (c0 : 0 ≤ c) (c1 : c ≤ 100) (c0' : 0 ≤ c') (c1' : c' ≤ 100) (l0 : 0 ≤ l) (l1 : l < 10) : ∀ (N : Nat) (i : Nat) (b k : Int) (u3 : Value) (m mm : zMm), n - i ≤ N → 0 ≤ k → k < i → 0 ≤ b → b < 128 → CS T L n i c l m → MS B L i c' mm → (∃ j m' mm' kd nu u2 u3', i < j ∧ Z e (d + 2) 80 37 [.ref 179, .int (iI b), .int (iI k)] [] m = ri 1 m' ∧ Z e (d' + 6) 240 239 [.ref 246, .int (iI (4 * l)), .int (iI b), u3] [] mm = Z e (d' + 6) 240 337 [.ref 246, .int (iI (4 * l)), u2, u3'] [] mm' ∧ CS T L n j c (l + 1) m' ∧ MS B L j c' mm' ∧ CFl l c m m' ∧ MFl l c' mm mm' ∧ (m' 186 l = kd ∧ mm' 255 (4 * l) = kd) ∧ (0 ≤ kd ∧ kd ≤ 6) ∧ (m' 187 l = nu ∧ mm' 255 (4 * l + 1) = nu) ∧ (0 ≤ nu ∧ nu ≤ 999) ∧ m' 188 l = c ∧ m' 189 l = c ∧ mm' 246 19 = mm 246 19) ∨ (∃ j m' mm' u2 u3', Z e (d + 2) 80 37 [.ref 179, .int (iI b), .int (iI k)] [] m = ri 0 m' ∧ Z e (d' + 6) 240 239 [.ref 246, .int (iI (4 * l)), .int (iI b), u3] [] mm = Z e (d' + 6) 240 337 [.ref 246, .int (iI (4 * l)), u2, u3'] [] mm' ∧ LBAD T B L n j c c' l m m' mm mm') := by
  have w0 : wr 0 = 0 := rfl
  have w1 : wr 1 = 1 := rfl
  have no : ∀ (i : Nat) (b k : Int) (u3 : Value) (m mm : zMm), 0 ≤ b → b < 128 → CS T L n i c l m → MS B L i c' mm → ¬ cW T L (tS T L i) = 12 → (∃ j m' mm' kd nu u2 u3', i < j ∧ Z e (d + 2) 80 37 [.ref 179, .int (iI b), .int (iI k)] [] m = ri 1 m' ∧ Z e (d' + 6) 240 239 [.ref 246, .int (iI (4 * l)), .int (iI b), u3] [] mm = Z e (d' + 6) 240 337 [.ref 246, .int (iI (4 * l)), u2, u3'] [] mm' ∧ CS T L n j c (l + 1) m' ∧ MS B L j c' mm' ∧ CFl l c m m' ∧ MFl l c' mm mm' ∧ (m' 186 l = kd ∧ mm' 255 (4 * l) = kd) ∧ (0 ≤ kd ∧ kd ≤ 6) ∧ (m' 187 l = nu ∧ mm' 255 (4 * l + 1) = nu) ∧ (0 ≤ nu ∧ nu ≤ 999) ∧ m' 188 l = c ∧ m' 189 l = c ∧ mm' 246 19 = mm 246 19) ∨ (∃ j m' mm' u2 u3', Z e (d + 2) 80 37 [.ref 179, .int (iI b), .int (iI k)] [] m = ri 0 m' ∧ Z e (d' + 6) 240 239 [.ref 246, .int (iI (4 * l)), .int (iI b), u3] [] mm = Z e (d' + 6) 240 337 [.ref 246, .int (iI (4 * l)), u2, u3'] [] mm' ∧ LBAD T B L n j c c' l m m' mm mm') := by
    intro i b k u3 m mm b0 b1 h hm q
    have st1 : Z e (d + 2) 80 37 [.ref 179, .int (iI b), .int (iI k)] [] m = _ := b_80_37
    have st2 : Z e (d' + 6) 240 239 [.ref 246, .int (iI (4 * l)), .int (iI b), u3] [] mm = _ := b_240_239
    have n1 := hm.1.name (e := e) (d := d' + 1) (a := 10124) (x := 10) hv hm.2.1 tb (by decide) (by decide) nm_txt.2.2.2.2.2.2.2.2.2.2.2.2.1 (by decide) (by decide)
    rw [h.1.pass0 (by decide) (by decide) q, ri_k, b_80_44 h.1.word, w0, itp rfl, h.1.1.2.1] at st1
    rw [hm.1.name (d := d' + 1) (x := 12) hv hm.2.1 tb (by decide) (by decide) nm_txt.2.2.2.2.2.2.2.2.2.2.1 (by decide) (by decide), bi_f q, ri_k, b_240_245, w0, itn (fun z => z rfl), b_240_277, n1, ri_k, b_240_289, wr_bi, wr_of (x := 4 * l) (by omega) (by omega), wr_of (x := 4 * l + 1) (by omega) (by omega), ck_t (by omega), ck_t (by omega)] at st2
    obtain ⟨kd, hkd⟩ : ∃ kd : Int, (if ¬ bi (cW T L (tS T L i) = 10) = 0 then (5 : Int) else 6) = kd := ⟨_, rfl⟩
    have kb : wr kd = kd ∧ 0 ≤ kd ∧ kd ≤ 6 := by
      rw [← hkd]
      by_cases z : cW T L (tS T L i) = 10
      · rw [bi_t z]; decide
      · rw [bi_f z]; decide
    rw [hkd] at st2
    have wb : wr b = b := wr_of (by omega) (by omega)
    have hm3 : MS B L i c' (um (um mm 255 (4 * l) kd) 255 (4 * l + 1) b) := (hm.u255 kb.1).u255 wb
    have g7 : MFl l c' mm (um (um mm 255 (4 * l) kd) 255 (4 * l + 1) b) := (MFl.u (l := l) (c := c') (by omega)).trans (MFl.u (l := l) (c := c') (by omega)) (Int.le_refl _) (Int.le_refl _)
    have k0 : um (um mm 255 (4 * l) kd) 255 (4 * l + 1) b 255 (4 * l) = kd := by rw [um_i (by omega), um_s]
    have k1 : um (um mm 255 (4 * l) kd) 255 (4 * l + 1) b 255 (4 * l + 1) = b := um_s
    have k9 : um (um mm 255 (4 * l) kd) 255 (4 * l + 1) b 246 19 = mm 246 19 := by rw [um_k (by decide), um_k (by decide)]
    generalize um (um mm 255 (4 * l) kd) 255 (4 * l + 1) b = mm3 at *
    have n3 := hm3.1.name (e := e) (d := d' + 1) (a := 10124) (x := 10) hv hm3.2.1 tb (by decide) (by decide) nm_txt.2.2.2.2.2.2.2.2.2.2.2.2.1 (by decide) (by decide)
    have n4 := hm3.1.name (e := e) (d := d' + 1) (a := 10125) (x := 11) hv hm3.2.1 tb (by decide) (by decide) nm_txt.2.2.2.2.2.2.2.2.2.2.2.2.2 (by decide) (by decide)
    have need : Z e (d' + 6) 240 316 [.ref 246, .int (iI (4 * l)), .int (iI b), u3] [.int (iI (bi (cW T L (tS T L i) = 10))), .ref 246] mm3 = Z e (d' + 6) 240 334 [.ref 246, .int (iI (4 * l)), .int (iI b), u3] [.int (iI (if cW T L (tS T L i) = 10 ∨ cW T L (tS T L i) = 11 then 1 else 0)), .ref 246] mm3 := by
      rw [b_240_316, wr_bi]
      by_cases z : cW T L (tS T L i) = 10
      · rw [bi_t z, itn (by decide), itp (Or.inl z)]
      · rw [bi_f z, itp rfl, n4, ri_k, b_240_326, wr_bi]
        by_cases y : cW T L (tS T L i) = 11
        · rw [bi_t y, itp (by decide), itp (Or.inr y)]
        · rw [bi_f y, itn (fun z => z rfl), itn (fun u => u.elim z y)]
    rw [n3, ri_k, need, b_240_334] at st2
    by_cases z : cW T L (tS T L i) = 10 ∨ cW T L (tS T L i) = 11
    · obtain ⟨m2, e2, a1, a2, _⟩ := h.adv (e := e) (d := d + 1) (h.1.lt (by omega))
      have cl2 : CFl l c m m2 := by rw [e2]; exact CFl.adv _ _
      obtain ⟨m3, f1, f2, f3, f4, f5, f6, f7⟩ := C_line (e := e) (d := d + 1) (kd := kd) (nu := b) a2 c0 c1 l0 l1 kb.1 wb
      have ek : (if ¬ wr (if cW T L (tS T L i) = 10 then 1 else 0) = 0 then (5 : Int) else 6) = kd := by
        rw [← hkd]
        by_cases y : cW T L (tS T L i) = 10
        · rw [bi_t y, itp y, w1]
        · rw [bi_f y, itn y, w0]
      obtain ⟨mm4, s1, s2, s3⟩ := hm3.need1 (e := e) (d := d' + 2) tb.1.1 tb.1.2
      rw [itn (by omega), a1, rn_k, b_80_92, ek, f1, rn_k, b_80_110] at st1
      rw [itp z, s1, rn_k] at st2
      refine Or.inl ⟨i + 1, m3, mm4, kd, b, _, _, by omega, st1, st2, f2, s2, cl2.trans f3 (Int.le_refl _) (Int.le_refl _), g7.trans (MF.fx (c := c') s3).fl (Int.le_refl _) (Int.le_refl _), ⟨f4, ?_⟩, kb.2, ⟨f5, ?_⟩, ⟨b0, by omega⟩, f6, f7, ?_⟩
      · rw [s3.1 255 (by decide)]; exact k0
      · rw [s3.1 255 (by decide)]; exact k1
      · rw [s3.2.1 19 (by decide)]; exact k9
    · obtain ⟨mm4, s1, s2, s3, s4, _⟩ := hm3.need0 (e := e) (d := d' + 2)
      rw [itp (by omega)] at st1
      rw [itn z, s1, rn_k] at st2
      exact Or.inr ⟨i, m, mm4, _, _, st1, st2, h.1, h.2.1, CFl.refl, s2, s3, g7.trans s4.fl (Int.le_refl _) (Int.le_refl _)⟩
  intro N
  induction N with
  | zero =>
    intro i b k u3 m mm hN k0 k1 b0 b1 h hm
    refine no i b k u3 m mm b0 b1 h hm (fun q => ?_)
    have := h.1.lt (by omega)
    omega
  | succ N ih =>
    intro i b k u3 m mm hN k0 k1 b0 b1 h hm
    by_cases q : cW T L (tS T L i) = 12
    · have nn := h.1.1.2.2.1
      have n3 := h.1.1.2.2.2.1
      have st1 : Z e (d + 2) 80 37 [.ref 179, .int (iI b), .int (iI k)] [] m = _ := b_80_37
      have st2 : Z e (d' + 6) 240 239 [.ref 246, .int (iI (4 * l)), .int (iI b), u3] [] mm = _ := b_240_239
      have ps := h.1.pass (e := e) (d := d) (x := 12) h.2.1 (by decide) (by decide) q
      obtain ⟨m1, e1, _, p2, _⟩ := h.adv (e := e) (d := d) ps.2
      have cl : CFl l c m m1 := by rw [e1]; exact CFl.adv _ _
      obtain ⟨mm1, r1, r2, r3⟩ := hm.next (e := e) (d := d' + 3) tb.1.1 tb.1.2
      have mk := M_kind (e := e) (d := d') hv tb r2.1 r2.2.1
      have wb := cW_b (T := T) (L := L) (s := tS T L (i + 1))
      have ke := kac_e wb.1 wb.2
      have x1 : m1 179 8 = cW T L (tS T L (i + 1)) := p2.1.1.2.1
      rw [ps.1, ← e1, ri_k, b_80_44 p2.1.word, w1, itn (by decide), b_80_4 p2.1.word p2.1.word, wr_of (x := k + 1) (by omega) (by omega), itp (by omega), x1, wr_of (x := wbit (cW T L (tS T L (i + 1)))) (by omega) (by omega)] at st1
      rw [hm.1.name (d := d' + 1) (x := 12) hv hm.2.1 tb (by decide) (by decide) nm_txt.2.2.2.2.2.2.2.2.2.2.1 (by decide) (by decide), bi_t q, ri_k, b_240_245, w1, itp (by decide), r1, rn_k, b_240_252, mk, ri_k, b_240_256, wr_of (x := wbit (cW T L (tS T L (i + 1)))) (by omega) (by omega)] at st2
      by_cases z : wbit (cW T L (tS T L (i + 1))) = 0
      · obtain ⟨mm2, s1, s2, s3, s4, _⟩ := r2.need0 (e := e) (d := d' + 2)
        obtain ⟨mm3, t1, t2, t3, t4⟩ := s2.kinds (e := e) (d := d' + 1) (l := l) (c' := c') (b := jor b (wbit (cW T L (tS T L (i + 1))))) (u3 := .int (iI (wbit (cW T L (tS T L (i + 1)))))) s3 l0 l1 wr_jor
        rw [itp z] at st1
        rw [itn (by omega), s1, rn_k, b_240_274] at st2
        exact Or.inr ⟨i + 1, m1, mm3, _, _, st1, st2.trans t1, p2.1, p2.2.1, cl, t2, t3, ((MF.fx (c := c') r3).fl.trans s4.fl (Int.le_refl _) (Int.le_refl _)).trans t4 (Int.le_refl _) (Int.le_refl _)⟩
      · obtain ⟨m2, e2, a1, a2, _⟩ := p2.adv (e := e) (d := d + 1) (p2.1.lt (fun y => z (by rw [y]; rfl)))
        have cl2 : CFl l c m1 m2 := by rw [e2]; exact CFl.adv _ _
        obtain ⟨mm2, s1, s2, s3⟩ := r2.need1 (e := e) (d := d' + 2) tb.1.1 tb.1.2
        have jb := jor_128 (a := b) (b := wbit (cW T L (tS T L (i + 1)))) b0 b1 ke.2.1 ke.2.2.1
        rw [itn z, a1, rn_k] at st1
        rw [itp (by omega), s1, rn_k, b_240_274] at st2
        have f : CFl l c m m2 := cl.trans cl2 (Int.le_refl _) (Int.le_refl _)
        have g : MFl l c' mm mm2 := (MF.fx (c := c') r3).fl.trans (MF.fx (c := c') s3).fl (Int.le_refl _) (Int.le_refl _)
        have g19 : mm2 246 19 = mm 246 19 := by rw [s3.2.1 19 (by decide), r3.2.1 19 (by decide)]
        rcases ih (i + 2) (jor b (wbit (cW T L (tS T L (i + 1))))) (k + 1) (.int (iI (wbit (cW T L (tS T L (i + 1)))))) m2 mm2 (by omega) (by omega) (by omega) jb.1 jb.2 a2 s2 with ⟨j, m', mm', kd, nu, u2, u3', ij, t1, t2, t3, t4, t5, t6, t7, t8, t9, t10, t11, t12, t13⟩ | ⟨j, m', mm', u2, u3', t1, t2, t3, t4, t5, t6, t7, t8⟩
        · exact Or.inl ⟨j, m', mm', kd, nu, u2, u3', by omega, st1.trans t1, st2.trans t2, t3, t4, f.trans t5 (Int.le_refl _) (Int.le_refl _), g.trans t6 (Int.le_refl _) (Int.le_refl _), t7, t8, t9, t10, t11, t12, t13.trans g19⟩
        · exact Or.inr ⟨j, m', mm', u2, u3', st1.trans t1, st2.trans t2, t3, t4, f.trans t5 (Int.le_refl _) (Int.le_refl _), t6, t7, g.trans t8 (Int.le_refl _) (Int.le_refl _)⟩
    · exact no i b k u3 m mm b0 b1 h hm q
end SO2
