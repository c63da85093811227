/-! Hours: a runner's next cell; both sides. -/
def okN (w : Int → Int) (c s : Int) : Prop := ¬ nbr c s = -3 ∧ w (nbr c s) = w c - 1
noncomputable def nxtW (w : Int → Int) (c : Int) : Int := cif (w c < 1) (-3) (cif (okN w c 0) (nbr c 0) (cif (okN w c 1) (nbr c 1) (cif (okN w c 2) (nbr c 2) (cif (okN w c 3) (nbr c 3) (-3)))))
noncomputable def nxtS (N : Int → Int) (a c : Int) : Int := nxtW (wayS N a) c
section HR
variable {e : List Int32 × Value} {d : Nat} {m : zMm} {N : Int → Int}
theorem nxtW_cg {w w' : Int → Int} {c : Int} (c0 : 0 ≤ c) (c1 : c < 100) (h : ∀ c, 0 ≤ c → c < 100 → w' c = w c) : nxtW w' c = nxtW w c := by
  have ok : ∀ s, (okN w' c s ↔ okN w c s) := fun s => by
    unfold okN
    refine and_congr_right (fun z => ?_)
    have b := nbr_b c0 c1 z
    rw [h c c0 c1, h _ b.1 b.2.1]
  unfold nxtW
  rw [h c c0 c1, propext (ok 0), propext (ok 1), propext (ok 2), propext (ok 3)]
theorem nxtW_b {w : Int → Int} {c : Int} (c0 : 0 ≤ c) (c1 : c < 100) : nxtW w c = -3 ∨ (0 ≤ nxtW w c ∧ nxtW w c < 100) := by
  unfold nxtW
  by_cases h : w c < 1
  · rw [cif_t h]; exact Or.inl rfl
  · rw [cif_f h]
    by_cases h0 : okN w c 0
    · rw [cif_t h0]; have := nbr_b c0 c1 h0.1; exact Or.inr ⟨this.1, this.2.1⟩
    · rw [cif_f h0]
      by_cases h1 : okN w c 1
      · rw [cif_t h1]; have := nbr_b c0 c1 h1.1; exact Or.inr ⟨this.1, this.2.1⟩
      · rw [cif_f h1]
        by_cases h2 : okN w c 2
        · rw [cif_t h2]; have := nbr_b c0 c1 h2.1; exact Or.inr ⟨this.1, this.2.1⟩
        · rw [cif_f h2]
          by_cases h3 : okN w c 3
          · rw [cif_t h3]; have := nbr_b c0 c1 h3.1; exact Or.inr ⟨this.1, this.2.1⟩
          · rw [cif_f h3]; exact Or.inl rfl
theorem C_next {p a c : Int} (hr : Rng m) (p0 : 0 ≤ p) (p1 : p < m 4 3) (hn : 0 ≤ m 4 3 ∧ m 4 3 ≤ 16) (hc : m 5 (p * 18 + 0) = c) (c0 : 0 ≤ c) (c1 : c < 100) (hB : beside m) (hW : isWay (wall N) a (m (210 + p.toNat))) : Z e (d + 1) 96 0 [.ref 208, .int (iI p), .retAddr 0, .retAddr 0, .retAddr 0, .retAddr 0] [] m = ri (nxtS N a c) m := by
  have hA := zArr_209 (j := p) ⟨p0, by omega⟩
  have e1 : nxtS N a c = nxtW (m (210 + p.toNat)) c := (nxtW_cg c0 c1 (fun c h0 h1 => wayS_eq hW h0 h1)).symm
  rw [e1]
  have wp : wr p = p := wr_of (by omega) (by omega)
  have wc : wr c = c := wr_of (by omega) (by omega)
  have t0 := get_4 (e := e) (d := d) (m := m) (i := p) (j := 0) hn.1 hn.2 p0 p1 (by decide) (by decide)
  rw [hc] at t0
  have wr1 : ∀ i, wr (m (210 + p.toNat) i) = m (210 + p.toNat) i := fun i => hr _ i
  have wb := (hW.1 c c0 c1)
  generalize hw : m (210 + p.toNat) = w at *
  have wsub : wr (w c - 1) = w c - 1 := wr_of (by omega) (by omega)
  have side : ∀ (s : Int) (u : Value), 0 ≤ s → s < 4 → (okN w c s → Z e (d + 1) 96 42 [.ref 208, .int (iI p), .ref (210 + p.toNat), .int (iI c), .int (iI (4 * c + s)), u] [] m = ri (nbr c s) m) ∧ (¬ okN w c s → Z e (d + 1) 96 42 [.ref 208, .int (iI p), .ref (210 + p.toNat), .int (iI c), .int (iI (4 * c + s)), u] [] m = Z e (d + 1) 96 42 [.ref 208, .int (iI p), .ref (210 + p.toNat), .int (iI c), .int (iI (4 * c + (s + 1))), .int (iI (nbr c s))] [] m) := by
    intro s u s0 s1
    have bs := hB c s c0 c1 s0 s1
    have w4 : wr (4 * c + s) = 4 * c + s := wr_of (by omega) (by omega)
    have w44 : wr (4 * c + 4) = 4 * c + 4 := wr_of (by omega) (by omega)
    have st : Z e (d + 1) 96 42 [.ref 208, .int (iI p), .ref (210 + p.toNat), .int (iI c), .int (iI (4 * c + s)), u] [] m = _ := b_96_42 hA
    have nb : nbr c s = -3 ∨ (0 ≤ nbr c s ∧ nbr c s < 100) := by
      by_cases z : nbr c s = -3
      · exact Or.inl z
      · have := nbr_b c0 c1 z; exact Or.inr ⟨this.1, this.2.1⟩
    have wn : wr (nbr c s) = nbr c s := wr_of (by omega) (by omega)
    rw [w4, w44, itp (by omega), ck_t (by omega), bs, wn, wc, hw, wr1, wsub, ck_t (fun z => ⟨by omega, by omega⟩)] at st
    unfold okN
    refine ⟨fun z => ?_, fun z => ?_⟩
    · rw [itp z] at st; exact st
    · rw [itn z, show 4 * c + s + 1 = 4 * c + (s + 1) by omega] at st; exact st
  have start : Z e (d + 1) 96 0 [.ref 208, .int (iI p), .retAddr 0, .retAddr 0, .retAddr 0, .retAddr 0] [] m = if w c < 1 then ri (-3) m else Z e (d + 1) 96 42 [.ref 208, .int (iI p), .ref (210 + p.toNat), .int (iI c), .int (iI (4 * c)), .retAddr 0] [] m := by
    rw [b_96_0, wp, ck_t (by omega), t0, ri_k, b_96_19 hA, wc, hw, wr1, ck_t (fun _ => by omega)]
    by_cases z : w c < 1
    · rw [itp (Or.inr z), if_pos z]
    · rw [itn (fun y => by omega), if_neg z]
  rw [start]
  unfold nxtW
  by_cases h : w c < 1
  · rw [if_pos h, cif_t h]
  · rw [if_neg h, cif_f h]
    have s0 := side 0 (.retAddr 0) (by decide) (by decide)
    rw [Int.add_zero] at s0
    by_cases h0 : okN w c 0
    · rw [cif_t h0]; exact s0.1 h0
    · rw [cif_f h0, s0.2 h0]
      have s1 := side 1 (.int (iI (nbr c 0))) (by decide) (by decide)
      rw [show (0 : Int) + 1 = 1 from rfl]
      by_cases h1 : okN w c 1
      · rw [cif_t h1]; exact s1.1 h1
      · rw [cif_f h1, s1.2 h1]
        have s2 := side 2 (.int (iI (nbr c 1))) (by decide) (by decide)
        rw [show (1 : Int) + 1 = 2 from rfl]
        by_cases h2 : okN w c 2
        · rw [cif_t h2]; exact s2.1 h2
        · rw [cif_f h2, s2.2 h2]
          have s3 := side 3 (.int (iI (nbr c 2))) (by decide) (by decide)
          rw [show (2 : Int) + 1 = 3 from rfl]
          by_cases h3 : okN w c 3
          · rw [cif_t h3]; exact s3.1 h3
          · rw [cif_f h3, s3.2 h3, show (3 : Int) + 1 = 4 from rfl]
            refine (b_96_42 hA).trans ?_
            rw [wr_of (x := 4 * c + 4) (by omega) (by omega), itn (by omega)]
/-- the reference -/
theorem M_next {a c : Int} {u1 u2 u6 : Value} {x1 x2 : Int} (hr : Rng m) (c0 : 0 ≤ c) (c1 : c < 100) (hW : isWay (wall (m 247)) a (wy (m 252))) (hv : ∀ c, 0 ≤ c → c < 100 → ¬ m 252 c = -3) : ∃ u6', Z e (d + 3) 280 62 [.ref 246, .int (iI x1), .int (iI x2), .int (iI c), .int (iI (-1)), .int (iI 3), u6] [] m = Z e (d + 3) 280 126 [.ref 246, .int (iI x1), .int (iI x2), .int (iI c), .int (iI (if nxtS (m 247) a c = -3 then -1 else nxtS (m 247) a c)), .int (iI (-1)), u6'] [] m := by
  have e1 : nxtS (m 247) a c = nxtW (wy (m 252)) c := (nxtW_cg c0 c1 (fun c h0 h1 => wayS_eq hW h0 h1)).symm
  rw [e1]
  have wc : wr c = c := wr_of (by omega) (by omega)
  have wb := hW.1
  have side : ∀ (s y : Int) (u : Value), 0 ≤ s → s < 4 → ∃ u', Z e (d + 3) 280 62 [.ref 246, .int (iI x1), .int (iI x2), .int (iI c), .int (iI y), .int (iI s), u] [] m = Z e (d + 3) 280 62 [.ref 246, .int (iI x1), .int (iI x2), .int (iI c), .int (iI (cif (1 ≤ wy (m 252) c ∧ okN (wy (m 252)) c s) (nbr c s) y)), .int (iI (s - 1)), u'] [] m := by
    intro s y u s0 s1
    have st := stepTo_ok (e := e) (d := d) (m := m) (c := c) (s := s) c0 c1 s0 s1 hr
    have start : Z e (d + 3) 280 62 [.ref 246, .int (iI x1), .int (iI x2), .int (iI c), .int (iI y), .int (iI s), u] [] m = _ := b_280_62
    rw [wr_of (x := s) (by omega) (by omega), itp s0, st, ri_k, b_280_74, wc, hr] at start
    by_cases z : nbr c s = -3 ∨ m 247 (10 + nbr c s) = 1
    · have no : ¬ (1 ≤ wy (m 252) c ∧ okN (wy (m 252)) c s) := by
        intro q
        rcases z with z | z
        · exact q.2.1 z
        · have b := nbr_b c0 c1 q.2.1
          have q1 := wb _ b.1 b.2.1
          have q2 := q.2.2
          rcases q1 with w | w
          · omega
          · exact w.2.2 z
      rw [itp z, ck_t (fun y => absurd y (by decide)), itn (fun y => absurd y.1 (by decide))] at start
      rw [cif_f no]
      exact ⟨_, start⟩
    · have z1 : ¬ nbr c s = -3 := fun y => z (Or.inl y)
      have b := nbr_b c0 c1 z1
      have wn : wr (nbr c s) = nbr c s := wr_of (by omega) (by omega)
      have q1 := wb c c0 c1
      have q2 := wb _ b.1 b.2.1
      have v1 := hv c c0 c1
      have v2 := hv _ b.1 b.2.1
      have hcond : ((0 ≤ nbr c s) ∧ ((¬ m 252 c = 1000) ∧ (m 252 (nbr c s) = m 252 c - 1))) ↔ (1 ≤ wy (m 252) c ∧ okN (wy (m 252)) c s) := by
        unfold okN
        have y1 : wy (m 252) c = if m 252 c = 1000 then -3 else m 252 c := rfl
        have y2 : wy (m 252) (nbr c s) = if m 252 (nbr c s) = 1000 then -3 else m 252 (nbr c s) := rfl
        by_cases k1 : m 252 c = 1000
        · rw [if_pos k1] at y1
          constructor
          · intro q; exact absurd k1 q.2.1
          · intro q; omega
        · rw [if_neg k1] at y1
          by_cases k2 : m 252 (nbr c s) = 1000
          · rw [if_pos k2] at y2
            constructor
            · intro q; omega
            · intro q; omega
          · rw [if_neg k2] at y2
            rw [y1, y2]
            rw [y1] at q1
            rw [y2] at q2
            constructor
            · intro q; exact ⟨by omega, z1, q.2.2⟩
            · intro q; exact ⟨b.1, k1, q.2.2⟩
      have ws : ¬ m 252 c = 1000 → wr (m 252 c - 1) = m 252 c - 1 := fun k1 => by
        have y1 : wy (m 252) c = if m 252 c = 1000 then -3 else m 252 c := rfl
        rw [if_neg k1] at y1
        rw [y1] at q1
        exact wr_of (by omega) (by omega)
      rw [itn z, wn, hr, ck_t (fun _ => ⟨⟨c0, c1⟩, fun _ => ⟨⟨b.1, b.2.1⟩, ⟨c0, c1⟩⟩⟩)] at start
      by_cases k : (0 ≤ nbr c s) ∧ ((¬ m 252 c = 1000) ∧ (m 252 (nbr c s) = m 252 c - 1))
      · rw [ws k.2.1, itp k] at start
        rw [cif_t (hcond.mp k)]
        exact ⟨_, start⟩
      · rw [cif_f (fun q => k (hcond.mpr q))]
        refine ⟨.int (iI (nbr c s)), start.trans ?_⟩
        rw [itn (fun q => k ⟨q.1, q.2.1, by have := ws q.2.1; have q3 := q.2.2; omega⟩)]
        rfl
  obtain ⟨v3, s3⟩ := side 3 (-1) u6 (by decide) (by decide)
  obtain ⟨v2, s2⟩ := side 2 (cif (1 ≤ wy (m 252) c ∧ okN (wy (m 252)) c 3) (nbr c 3) (-1)) v3 (by decide) (by decide)
  obtain ⟨v1, s1⟩ := side 1 _ v2 (by decide) (by decide)
  obtain ⟨v0, s0⟩ := side 0 _ v1 (by decide) (by decide)
  refine ⟨v0, ?_⟩
  rw [s3, show (3 : Int) - 1 = 2 from rfl, s2, show (2 : Int) - 1 = 1 from rfl, s1, show (1 : Int) - 1 = 0 from rfl, s0, show (0 : Int) - 1 = -1 from rfl]
  refine (b_280_62).trans ?_
  rw [itn (by decide)]
  refine congrArg (fun z => Z e (d + 3) 280 126 [.ref 246, .int (iI x1), .int (iI x2), .int (iI c), .int (iI z), .int (iI (-1)), v0] [] m) ?_
  have nn : ∀ s, okN (wy (m 252)) c s → ¬ nbr c s = -3 := fun s q => q.1
  unfold nxtW
  by_cases h : wy (m 252) c < 1
  · rw [cif_t h, if_pos rfl, cif_f (fun q => by omega), cif_f (fun q => by omega), cif_f (fun q => by omega), cif_f (fun q => by omega)]
  · have h' : 1 ≤ wy (m 252) c := by omega
    rw [cif_f h]
    by_cases h0 : okN (wy (m 252)) c 0
    · rw [cif_t ⟨h', h0⟩, cif_t h0, if_neg (nn 0 h0)]
    · rw [cif_f (fun q => h0 q.2), cif_f h0]
      by_cases h1 : okN (wy (m 252)) c 1
      · rw [cif_t ⟨h', h1⟩, cif_t h1, if_neg (nn 1 h1)]
      · rw [cif_f (fun q => h1 q.2), cif_f h1]
        by_cases h2 : okN (wy (m 252)) c 2
        · rw [cif_t ⟨h', h2⟩, cif_t h2, if_neg (nn 2 h2)]
        · rw [cif_f (fun q => h2 q.2), cif_f h2]
          by_cases h3 : okN (wy (m 252)) c 3
          · rw [cif_t ⟨h', h3⟩, cif_t h3, if_neg (nn 3 h3)]
          · rw [cif_f (fun q => h3 q.2), cif_f h3, if_pos rfl]
end HR
