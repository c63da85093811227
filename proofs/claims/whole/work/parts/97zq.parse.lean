/-! Reading: the whole text on both sides. -/
section SQ
variable {e : List Int32 × Value} {d d' : Nat} {m m' mm mm' : zMm} {T B : Int → Int} {L : Int} {n : Nat}
theorem iI_rng {x y : Int} (h : iI x = iI y) (hx : wr x = x) (hy : wr y = y) : x = y := by
  have := iI_eq.mp h
  rw [hx, hy] at this
  exact this
theorem hp_a {k n t : Nat} {tm : List (Option Value)} {i : Int} (hs : zshape[k]? = some (0, t, n, tm)) (h : hp m = hp m') (hr : Rng m) (hr' : Rng m') (i0 : 0 ≤ i) (i1 : i < n) : m k i = m' k i := by
  have a := hp_get (m := m) hs
  rw [h, hp_get (m := m') hs] at a
  have b : (List.range n).map (fun j : Nat => iI (m' k (j : Int))) = (List.range n).map (fun j : Nat => iI (m k (j : Int))) := by
    have := Option.some.inj a
    unfold zfill at this
    exact (Prod.mk.inj (Sum.inl.inj this)).2
  have c := congrArg (fun l => l[i.toNat]?) b
  simp only [List.getElem?_map, List.getElem?_range (show i.toNat < n by omega), Option.map_some] at c
  have e1 : ((i.toNat : Nat) : Int) = i := by omega
  rw [e1] at c
  exact iI_rng (Option.some.inj c).symm (hr k i) (hr' k i)
theorem hp_3 {i : Nat} (h : hp m = hp m') (hr : Rng m) (hr' : Rng m') (hi : i = 3 ∨ i = 4) : m 185 (i : Int) = m' 185 (i : Int) := by
  have a := hp_get (m := m) hs_185
  rw [h, hp_get (m := m') hs_185] at a
  have b := Option.some.inj a
  unfold zfill at b
  have c := congrArg (fun l => l[i]?) (Prod.mk.inj (Sum.inr.inj b)).2
  rcases hi with z | z <;> subst z <;> exact iI_rng (Value.int.inj (Option.some.inj c)).symm (hr _ _) (hr' _ _)
theorem hp_7 (h : hp m = hp m') (hr : Rng m) (hr' : Rng m') : m 179 7 = m' 179 7 := by
  have a := hp_get (m := m) hs_179
  rw [h, hp_get (m := m') hs_179] at a
  have b := Option.some.inj a
  unfold zfill at b
  have c := congrArg (fun l => l[7]?) (Prod.mk.inj (Sum.inr.inj b)).2
  exact iI_rng (Value.int.inj (Option.some.inj c)).symm (hr _ _) (hr' _ _)
/-- what a parse leaves in the class -/
def CFp (m m' : zMm) : Prop := (∀ k, ¬ (k = 179 ∨ (182 ≤ k ∧ k ≤ 190)) → m' k = m k) ∧ (∀ i, ¬ (6 ≤ i ∧ i ≤ 8) → m' 179 i = m 179 i) ∧ (∀ i, ¬ (i = 3 ∨ i = 4) → m' 185 i = m 185 i)
theorem P_parse0 (hv : e.2 = .null ∨ e.2 = .ref 10301) (hr : Rng m) (hT : m 180 = T) (hL : m 179 1 = L) (l0 : 0 ≤ L) (l1 : L ≤ 300) : ∃ n m', Z e (d + 24) 66 0 [.ref 179, .retAddr 0] [] m = Z e (d + 24) 66 28 [.ref 179, .int (iI 0)] [] m' ∧ CS T L n 0 0 0 m' ∧ CFp m m' := by
  obtain ⟨m1, n, a1, a2, a3, a4, a5, a6, a7⟩ := C_split (e := e) (d := d + 17) hv hr hT hL l0 l1
  have r0 : m1 182 0 = cW T L (tS T L 0) := by
    by_cases q : 0 < n
    · exact (a5 0 q).1
    · have z : n = 0 := by omega
      subst z
      rw [a7]
      unfold cW
      rw [cif_t rfl]
      exact a6.1
  have wb := cW_b (T := T) (L := L) (s := tS T L 0)
  have e1 : um (um (um m1 185 3 0) 185 4 0) 179 7 0 182 0 = cW T L (tS T L 0) := by rw [um_k (by decide), um_k (by decide), um_k (by decide)]; exact r0
  have st : Z e (d + 24) 66 0 [.ref 179, .retAddr 0] [] m = _ := b_66_0
  rw [a1, rn_k, b_66_4, show wr 0 = 0 from rfl, e1, ck_t (by omega)] at st
  have g : ∀ k, ¬ (k = 179 ∨ k = 185) → um (um (um (um m1 185 3 0) 185 4 0) 179 7 0) 179 8 (cW T L (tS T L 0)) k = m1 k := fun k hk => by rw [um_r (by omega), um_r (by omega), um_r (by omega), um_r (by omega)]
  refine ⟨n, _, st, ⟨⟨⟨?_, ?_, by omega, by omega, ?_⟩, ?_, ?_, a7⟩, ?_, ?_, ?_⟩, ?_, ?_, ?_⟩
  · rw [um_i (by decide), um_s]; rfl
  · rw [um_s]
  · rw [um_i (by decide), um_i (by decide), um_k (by decide), um_k (by decide)]; exact a4
  · intro k hk
    rw [g 182 (by decide), g 183 (by decide), g 184 (by decide)]
    exact a5 k hk
  · rw [g 182 (by decide), g 183 (by decide), g 184 (by decide)]
    exact a6
  · exact (((a2.2.2.um rfl).um rfl).um rfl).um (wr_of (by omega) (by omega))
  · rw [um_k (by decide), um_k (by decide), um_s]
  · rw [um_k (by decide), um_k (by decide), um_i (by decide), um_s]
  · intro k hk
    rw [g k (by omega)]
    exact a2.1 k (by omega) (by omega)
  · intro i hi
    rw [um_i (by omega), um_i (by omega), um_k (by decide), um_k (by decide)]
    exact a2.2.1 i (by omega)
  · intro i hi
    rw [um_k (by decide), um_k (by decide), um_i (by omega), um_i (by omega)]
    rw [a2.1 185 (by decide) (by decide)]
theorem M_reads0 (hr : Rng mm) (hB : mm 249 = B) (hL : mm 246 4 = L) (l0 : 0 ≤ L) (l1 : L ≤ 300) : ∃ mm', Z e (d + 25) 241 0 [.ref 246] [] mm = Z e (d + 25) 241 29 [.ref 246] [] mm' ∧ MS B L 0 0 mm' ∧ mm' 246 21 = 0 ∧ mm' 246 19 = 0 ∧ MFa mm mm' := by
  have st : Z e (d + 25) 241 0 [.ref 246] [] mm = _ := b_241_0
  have hr1 : Rng (um (um (um (um (um mm 246 16 0) 246 18 0) 246 19 0) 246 20 0) 246 21 0) := ((((hr.um rfl).um rfl).um rfl).um rfl).um rfl
  have g4 : um (um (um (um (um mm 246 16 0) 246 18 0) 246 19 0) 246 20 0) 246 21 0 246 4 = L := by rw [um_i (by decide), um_i (by decide), um_i (by decide), um_i (by decide), um_i (by decide)]; exact hL
  have gB : um (um (um (um (um mm 246 16 0) 246 18 0) 246 19 0) 246 20 0) 246 21 0 249 = B := by rw [um_r (by decide), um_r (by decide), um_r (by decide), um_r (by decide), um_r (by decide)]; exact hB
  have g16 : um (um (um (um (um mm 246 16 0) 246 18 0) 246 19 0) 246 20 0) 246 21 0 246 16 = 0 := by rw [um_i (by decide), um_i (by decide), um_i (by decide), um_i (by decide), um_s]
  have g18 : um (um (um (um (um mm 246 16 0) 246 18 0) 246 19 0) 246 20 0) 246 21 0 246 18 = 0 := by rw [um_i (by decide), um_i (by decide), um_i (by decide), um_s]
  have g19 : um (um (um (um (um mm 246 16 0) 246 18 0) 246 19 0) 246 20 0) 246 21 0 246 19 = 0 := by rw [um_i (by decide), um_i (by decide), um_s]
  have g20 : um (um (um (um (um mm 246 16 0) 246 18 0) 246 19 0) 246 20 0) 246 21 0 246 20 = 0 := by rw [um_i (by decide), um_s]
  have g21 : um (um (um (um (um mm 246 16 0) 246 18 0) 246 19 0) 246 20 0) 246 21 0 246 21 = 0 := um_s
  have F : MFa mm (um (um (um (um (um mm 246 16 0) 246 18 0) 246 19 0) 246 20 0) 246 21 0) := ((((MFa.u (by decide)).trans (MFa.u (by decide))).trans (MFa.u (by decide))).trans (MFa.u (by decide))).trans (MFa.u (by decide))
  generalize um (um (um (um (um mm 246 16 0) 246 18 0) 246 19 0) 246 20 0) 246 21 0 = mm1 at *
  obtain ⟨mm2, a1, a2, a3, a4, a5⟩ := M_tok (e := e) (d := d + 22) hr1 g4 gB l1 (by omega) (by omega)
  rw [g16] at a3 a4 a5
  rw [a1, rn_k] at st
  refine ⟨mm2, st, ⟨⟨a3, a4, a5, ?_, ?_, ?_⟩, a2.2.2, ?_⟩, ?_, ?_, F.trans ⟨fun k hk => a2.1 k (by omega), fun i hi => a2.2.1 i (by omega)⟩⟩
  · rw [a2.2.1 18 (by decide)]; exact g18
  · rw [a2.1 249 (by decide)]; exact gB
  · rw [a2.2.1 4 (by decide)]; exact g4
  · rw [a2.2.1 20 (by decide)]; exact g20
  · rw [a2.2.1 21 (by decide)]; exact g21
  · rw [a2.2.1 19 (by decide)]; exact g19
/-- the lines of both drafts -/
def DR (m mm : zMm) : Prop := ∃ c c' l, m 185 3 = l ∧ m 185 4 = c ∧ mm 246 21 = l ∧ mm 246 20 = c' ∧ (0 ≤ l ∧ l ≤ 10) ∧ (0 ≤ c ∧ c ≤ c' ∧ c' ≤ 100) ∧ (∀ q, 0 ≤ q → q < l → LN m mm c c' q)
theorem DR.hp (h : DR m' mm) (hh : hp m = hp m') (hr : Rng m) (hr' : Rng m') : DR m mm := by
  obtain ⟨c, c', l, h1, h2, h3, h4, h5, h6, h7⟩ := h
  refine ⟨c, c', l, ?_, ?_, h3, h4, h5, h6, fun q q0 q1 => ?_⟩
  · rw [← h1]; exact hp_3 (i := 3) hh hr hr' (Or.inl rfl)
  · rw [← h2]; exact hp_3 (i := 4) hh hr hr' (Or.inr rfl)
  · have k := h7 q q0 q1
    unfold LN at k ⊢
    rw [hp_a (i := q) hs_186 hh hr hr' q0 (by omega), hp_a (i := q) hs_187 hh hr hr' q0 (by omega), hp_a (i := q) hs_188 hh hr hr' q0 (by omega), hp_a (i := q) hs_189 hh hr hr' q0 (by omega)]
    obtain ⟨k1, k2, k3, k4, k5⟩ := k
    refine ⟨k1, k2, k3, k4, ?_⟩
    rcases k5 with z | z
    · exact Or.inl z
    · exact Or.inr ⟨z.1, z.2.1, semw_cg z.2.2 (fun p p0 p1 => hp_a hs_190 hh hr hr' (by omega) (by omega)) (fun _ _ _ => rfl)⟩
theorem ri_inj {v v' : Int} (h : ri v m = ri v' m') (hv : v = 0 ∨ v = 1) (hv' : v' = 0 ∨ v' = 1) : v = v' ∧ hp m = hp m' := by
  have a := Option.some.inj h
  have b := (Prod.mk.inj a).1
  refine ⟨?_, (Prod.mk.inj a).2⟩
  exact iI_rng (Value.int.inj (Option.some.inj b)) (by rcases hv with z | z <;> subst z <;> rfl) (by rcases hv' with z | z <;> subst z <;> rfl)
theorem parse_both (hv : e.2 = .null ∨ e.2 = .ref 10301) (hr : Rng m) (tb : TB T B L) (hT : m 180 = T) (hL : m 179 1 = L) (hB : m 249 = B) (hL' : m 246 4 = L) : ∃ v m1, Z e (d + 24) 66 0 [.ref 179, .retAddr 0] [] m = ri v m1 ∧ CFp m m1 ∧ Rng m1 ∧ (v = 0 ∨ v = 1) ∧ (v = 0 → 0 ≤ m1 179 7 ∧ m1 179 7 ≤ 300) ∧ ∀ mr : zMm, Rng mr → mr 249 = B → mr 246 4 = L → ∃ mm', Z e (d' + 25) 241 0 [.ref 246] [] mr = ri v mm' ∧ MFa mr mm' ∧ Rng mm' ∧ ((v = 1 ∧ DR m1 mm') ∨ (v = 0 ∧ mm' 246 15 = m1 184 (m1 179 7))) := by
  obtain ⟨n, m0, a1, a2, a3⟩ := P_parse0 (e := e) (d := d) hv hr hT hL tb.1.1 tb.1.2
  have run : ∀ mr : zMm, Rng mr → mr 249 = B → mr 246 4 = L → ∃ v m1 mm', Z e (d + 24) 66 0 [.ref 179, .retAddr 0] [] m = ri v m1 ∧ CFp m m1 ∧ Rng m1 ∧ (v = 0 ∨ v = 1) ∧ Z e (d' + 25) 241 0 [.ref 246] [] mr = ri v mm' ∧ MFa mr mm' ∧ Rng mm' ∧ ((v = 1 ∧ DR m1 mm') ∨ (v = 0 ∧ (0 ≤ m1 179 7 ∧ m1 179 7 ≤ 300) ∧ mm' 246 15 = m1 184 (m1 179 7))) := by
    intro mr h1 h2 h3
    obtain ⟨mm0, b1, b2, b3, b4, b5⟩ := M_reads0 (e := e) (d := d') h1 h2 h3 tb.1.1 tb.1.2
    obtain ⟨v, m1, mm1, c1, c2, c3, c4, c5⟩ := sim_lines (e := e) (d := d) (d' := d') (n := n) hv tb 10 0 0 0 0 m0 mm0 (by decide) a2 b2 b3 b4 (by decide) (by decide) (by decide) (by decide) (by have := (tS_b (T := B) tb.1.1 0).1; omega) (fun q q0 q1 => by omega)
    have cf : CFp m m1 := ⟨fun k hk => (c3.1 k (by omega)).trans (a3.1 k hk), fun i hi => (c3.2.1 i (by omega)).trans (a3.2.1 i hi), fun i hi => (c3.2.2.1 i hi).trans (a3.2.2 i hi)⟩
    rcases c5 with ⟨z, i, k, k', l, d1, d2, d3, d4, d5, d6⟩ | ⟨z, j, d1, d2, d3, d4⟩
    · exact ⟨v, m1, mm1, a1.trans c1, cf, d1.2.1, Or.inr z, b1.trans c2, b5.trans c4, d2.2.1, Or.inl ⟨z, k, k', l, d1.2.2.2, d1.2.2.1, d3, d2.2.2, d4, d5, d6⟩⟩
    · refine ⟨v, m1, mm1, a1.trans c1, cf, d2, Or.inl z, b1.trans c2, b5.trans c4, d4, Or.inr ⟨z, ?_, ?_⟩⟩
      · rw [d1.1.1]; have := d1.1.2.2.1; have := d1.1.2.2.2.1; omega
      · rw [d1.1.1, d1.at.2.1, d3, tb.ts j]
  obtain ⟨v, m1, mm1, c1, c2, c3, c4, _, _, _, c5⟩ := run m hr hB hL'
  refine ⟨v, m1, c1, c2, c3, c4, fun z => ?_, fun mr h1 h2 h3 => ?_⟩
  · rcases c5 with y | y
    · omega
    · exact y.2.1
  · obtain ⟨v2, m2, mm2, e1, e2, e3, e4, e5, e6, e7, e8⟩ := run mr h1 h2 h3
    obtain ⟨q1, q2⟩ := ri_inj (c1.symm.trans e1) c4 e4
    subst q1
    refine ⟨mm2, e5, e6, e7, ?_⟩
    rcases e8 with ⟨z, y⟩ | ⟨z, y, x⟩
    · exact Or.inl ⟨z, y.hp q2 c3 e3⟩
    · refine Or.inr ⟨z, ?_⟩
      rw [hp_7 q2 c3 e3, hp_a hs_184 q2 c3 e3 y.1 (by omega)]
      exact x
end SQ
