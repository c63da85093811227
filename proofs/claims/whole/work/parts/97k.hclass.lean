/-! Hours: the class. -/
section HC
variable {e : List Int32 × Value} {d : Nat} {m : zMm} {N : Int → Int} {n nb h : Int}
def SC (n : Int) (g : Int → Int → Int) (m : zMm) : Prop := ∀ p, 0 ≤ p → p < n → rowC m p (g p)
/-- what the class's hours may change -/
def cfr (m0 m : zMm) : Prop := (∀ k, ¬ k = 1 → ¬ k = 5 → m k = m0 k) ∧ (∀ i, ¬ i = 0 → m 1 i = m0 1 i)
theorem hEnv_of {m0 : zMm} (f : cfr m0 m) (h1 : m 1 0 = h) (h4 : m0 4 3 = n) (h14 : m0 14 3 = N 6) (hO : cPos m0 N) (hB : beside m0) : hEnv N n h m := by
  refine ⟨h1, by rw [f.1 4 (by decide) (by decide)]; exact h4, by rw [f.1 14 (by decide) (by decide)]; exact h14, ?_, ?_⟩
  · intro q q0 q1
    have := hO q q0 q1
    unfold oRow at this ⊢
    rw [f.1 15 (by decide) (by decide)]
    exact this
  · unfold beside at *
    rw [f.1 192 (by decide) (by decide)]
    exact hB
theorem C_persons {m0 : zMm} {g : Int → Int → Int} {x1 x2 x3 : Int} (wN : Rng (fun _ => N)) (b6 : 0 ≤ N 6 ∧ N 6 ≤ 8) (h0 : 0 ≤ h) (h9 : h ≤ 9999) (hn : 0 ≤ n ∧ n ≤ 16) (h4 : m0 4 3 = n) (h14 : m0 14 3 = N 6) (hO : cPos m0 N) (hB : beside m0) (ho : ∀ p, 0 ≤ p → p < n → rOk (g p)) (hW : ∀ p, 0 ≤ p → p < n → ¬ g p 4 = -3 → isWay (wall N) (g p 4) (m0 (210 + p.toNat))) : ∀ (j : Nat) (q o : Int) (m1 : zMm), q + j = n → 0 ≤ q → (o = 0 ∨ o = 1) → Rng m1 → SC n (mixS N (h % 24) n q g) m1 → cfr m0 m1 → m1 1 0 = h → ∃ m' o', Z e (d + 6) 93 40 [.ref 208, .int (iI x1), .int (iI x2), .int (iI x3), .int (iI o), .int (iI q)] [] m1 = Z e (d + 6) 93 80 [.ref 208, .int (iI x1), .int (iI x2), .int (iI x3), .int (iI o'), .int (iI n)] [] m' ∧ (o' = 0 ∨ o' = 1) ∧ (o' = 0 ↔ o = 0 ∧ ∀ p, q ≤ p → p < n → (goS N (h % 24) (g p 1).toNat (g p) 0).2 = 0) ∧ SC n (moveS N (h % 24) n g) m' ∧ cfr m0 m' ∧ m' 1 0 = h ∧ Rng m' := by
  intro j
  have wn : wr n = n := wr_of (by omega) (by omega)
  induction j with
  | zero =>
    intro q o m1 hq q0 oo r1 s1 f1 e1
    have : q = n := by omega
    subst this
    refine ⟨m1, o, ?_, oo, ⟨fun z => ⟨z, fun p a b => by omega⟩, fun z => z.1⟩, ?_, f1, e1, r1⟩
    · refine (b_93_40).trans ?_
      rw [f1.1 4 (by decide) (by decide), h4, wn, itn (fun y => by omega)]
    · intro p p0 p1
      have := s1 p p0 p1
      unfold mixS at this
      rw [cif_t p1] at this
      exact this
  | succ j ih =>
    intro q o m1 hq q0 oo r1 s1 f1 e1
    have q1 : q < n := by omega
    have hR : rowC m1 q (g q) := by
      have := s1 q q0 q1
      unfold mixS at this
      rw [cif_f (by omega)] at this
      exact this
    obtain ⟨m2, a1, a2, a3, a4⟩ := C_go (e := e) (d := d) (m := m1) (N := N) (n := n) (h := h) (p := q) (a := 0) (r := g q) r1 wN b6 (hEnv_of f1 e1 h4 h14 hO hB) h0 h9 hn q0 q1 hR (ho q q0 q1) (fun z => by rw [f1.1 (210 + q.toNat) (by omega) (by omega)]; exact hW q q0 q1 z)
    have gk := (goS_ok (N := N) (t := h % 24) (g q 1).toNat (g q) 0 (ho q q0 q1)).2.2
    have f2 : cfr m0 m2 := ⟨fun k h1 h5 => by rw [a3.1 k h5]; exact f1.1 k h1 h5, fun i hi => by rw [a3.1 1 (by decide)]; exact f1.2 i hi⟩
    have s2 : SC n (mixS N (h % 24) n (q + 1) g) m2 := by
      intro p p0 p1
      by_cases z : p = q
      · subst z
        unfold mixS
        rw [cif_t (by omega)]
        unfold moveS
        rw [cif_t ⟨p0, p1⟩]
        exact a2
      · have old := s1 p p0 p1
        have eq : mixS N (h % 24) n (q + 1) g p = mixS N (h % 24) n q g p := by
          unfold mixS
          by_cases y : p < q
          · rw [cif_t y, cif_t (by omega)]
          · rw [cif_f y, cif_f (by omega)]
        rw [eq]
        intro j' j0 j1
        rw [a3.2 _ (by omega)]
        exact old j' j0 j1
    obtain ⟨m', o', p1, p2, p3, p4⟩ := ih (q + 1) (if ¬ (goS N (h % 24) (g q 1).toNat (g q) 0).2 = 0 then 1 else o) m2 (by omega) (by omega) (by split <;> simp [oo]) a4 s2 f2 (by rw [a3.1 1 (by decide)]; exact e1)
    refine ⟨m', o', ?_, p2, p3.trans ?_, p4⟩
    · rw [← p1]
      refine (b_93_40).trans ?_
      rw [f1.1 4 (by decide) (by decide), h4, wn, wr_of (x := q) (by omega) (by omega), itp ⟨q1, by omega⟩, a1, ri_k, b_93_68, wr_of (x := (goS N (h % 24) (g q 1).toNat (g q) 0).2) (by omega) (by omega)]
    · constructor
      · intro z
        by_cases y : (goS N (h % 24) (g q 1).toNat (g q) 0).2 = 0
        · rw [if_neg (fun w => w y)] at z
          refine ⟨z.1, fun p a b => ?_⟩
          by_cases w : p = q
          · rw [w]; exact y
          · exact z.2 p (by omega) b
        · rw [if_pos y] at z
          exact absurd z.1 (by decide)
      · intro z
        rw [if_neg (fun w => w (z.2 q (by omega) q1))]
        exact ⟨z.1, fun p a b => z.2 p (by omega) b⟩
theorem SC_tell {m' : zMm} {g : Int → Int → Int} (hn : n ≤ 16) (hb : nb ≤ 8) (k : Kd (hdS g) (ceS g) n nb h (fun _ _ _ => True) (rdC m')) (f : belF nb m m') (s : SC n g m) : SC n (tellS n nb h g) m' := by
  intro p p0 p1 j j0 j1
  by_cases z : 10 ≤ j ∧ j < 10 + nb
  · have q := k p (j - 10) p0 p1 (by omega) (by omega)
    unfold rdC at q
    rw [show 10 + (j - 10) = j by omega] at q
    rw [q]
    unfold tellS
    unfold hdS at *
    rw [show 10 + (j - 10) = j by omega]
    refine cif_cg ⟨fun y => ⟨⟨p0, p1⟩, z, y.1, ?_⟩, fun y => ⟨y.2.2.1, ?_⟩⟩
    · obtain ⟨_, i, y1, _, y2⟩ := y
      exact ⟨i, y1, y2⟩
    · obtain ⟨_, _, _, i, y1, y2⟩ := y
      exact ⟨i, y1, trivial, y2⟩
  · rw [f.2 p j p0 (by omega) j0 j1 z, tellS_c z]
    exact s p p0 p1 j j0 j1
theorem C_hours {m0 : zMm} {hrs last : Int} (wN : Rng (fun _ => N)) (b6 : 0 ≤ N 6 ∧ N 6 ≤ 8) (hn : 0 ≤ n ∧ n ≤ 16) (hb : 0 ≤ nb ∧ nb ≤ 8) (h4 : m0 4 3 = n) (h11 : m0 1 1 = nb) (h14 : m0 14 3 = N 6) (hO : cPos m0 N) (hB : beside m0) (l0 : 0 ≤ last) (l9 : last ≤ 9999) (hh : 0 ≤ hrs ∧ hrs ≤ 100) : ∀ (j : Nat) (i h : Int) (g : Int → Int → Int) (m1 : zMm) (u4 u5 : Value), i + j = hrs → 0 ≤ i → h + j = last → 0 ≤ h → m1 1 0 = h → Rng m1 → SC n g m1 → gOk n nb h g → (∀ p, 0 ≤ p → p < n → ¬ g p 4 = -3 → isWay (wall N) (g p 4) (m0 (210 + p.toNat))) → cfr m0 m1 → ∃ m', Z e (d + 6) 93 16 [.ref 208, .int (iI hrs), .int (iI last), .int (iI i), u4, u5] [] m1 = rn m' ∧ SC n (gN N n nb j h g) m' ∧ m' 1 0 = last ∧ cfr m0 m' ∧ Rng m' := by
  intro j
  have wh : wr hrs = hrs := wr_of (by omega) (by omega)
  induction j with
  | zero =>
    intro i h g m1 u4 u5 hi i0 hl h0 e1 r1 s1 ok1 w1 f1
    refine ⟨um m1 1 0 last, ?_, ?_, um_s, ⟨fun k h1 h5 => by rw [um_r h1]; exact f1.1 k h1 h5, fun i hi => by rw [um_i hi]; exact f1.2 i hi⟩, r1.um (wr_of (by omega) (by omega))⟩
    · refine (b_93_16).trans ?_
      rw [wh, wr_of (x := i) (by omega) (by omega), itn (by omega)]
    · intro p p0 p1 j0 a b
      rw [um_k (by decide)]
      exact s1 p p0 p1 j0 a b
  | succ j ih =>
    intro i h g m1 u4 u5 hi i0 hl h0 e1 r1 s1 ok1 w1 f1
    have st : Z e (d + 6) 93 16 [.ref 208, .int (iI hrs), .int (iI last), .int (iI i), u4, u5] [] m1 = _ := b_93_16
    rw [wh, wr_of (x := i) (by omega) (by omega), itp (by omega), e1] at st
    have sA : SC n (mixS N ((h + 1) % 24) n 0 g) (um m1 1 0 (h + 1)) := by
      intro p p0 p1 j0 a b
      unfold mixS
      rw [cif_f (by omega), um_k (by decide)]
      exact s1 p p0 p1 j0 a b
    have fA : cfr m0 (um m1 1 0 (h + 1)) := ⟨fun k h1 h5 => by rw [um_r h1]; exact f1.1 k h1 h5, fun i hi => by rw [um_i hi]; exact f1.2 i hi⟩
    obtain ⟨m2, o', a1, a2, a3, a4, a5, a6, a7⟩ := C_persons (e := e) (d := d) (N := N) (h := h + 1) (m0 := m0) (g := g) (x1 := hrs) (x2 := last) (x3 := i) wN b6 (by omega) (by omega) hn h4 h14 hO hB ok1.1 w1 n.toNat 0 0 (um m1 1 0 (h + 1)) (by omega) (by decide) (Or.inl rfl) (r1.um (wr_of (by omega) (by omega))) sA fA um_s
    have mok := moveS_ok (N := N) (t := (h + 1) % 24) ok1
    obtain ⟨m3, b1, b2, b3, b4⟩ := tellBells_ok (e := e) (d := d + 3) (m := m2) (H := rdC m2) (C := ceS (moveS N ((h + 1) % 24) n g)) (n := n) (nb := nb) (h := h + 1) a7 hn hb (by omega) (by omega) a6 (by rw [a5.2 1 (by decide)]; exact h11) (by rw [a5.1 4 (by decide) (by decide)]; exact h4) rfl (fun p p0 p1 => a4 p p0 p1 0 (by decide) (by decide)) (fun p p0 p1 => by have := (mok.1 p p0 p1).1; exact wr_of (by unfold ceS; omega) (by unfold ceS; omega))
    have kk : Kd (hdS (moveS N ((h + 1) % 24) n g)) (ceS (moveS N ((h + 1) % 24) n g)) n nb (h + 1) (fun _ _ _ => True) (rdC m3) := by
      intro q b q0 q1 c0 c1
      have eqH : ∀ i, 0 ≤ i → i < n → rdC m2 i b = hdS (moveS N ((h + 1) % 24) n g) i b := fun i i0 i1 => a4 i i0 i1 (10 + b) (by omega) (by omega)
      rw [b2 q b q0 q1 c0 c1, eqH q q0 q1]
      refine cif_cg (and_congr Iff.rfl ⟨fun ⟨i, z1, z2, z3⟩ => ⟨i, z1, z2, ?_⟩, fun ⟨i, z1, z2, z3⟩ => ⟨i, z1, z2, ?_⟩⟩)
      · unfold tld at z3 ⊢
        rw [eqH i z1.1 z1.2] at z3
        exact z3
      · unfold tld at z3 ⊢
        rw [eqH i z1.1 z1.2]
        exact z3
    have s3 : SC n (hrS N n nb (h + 1) g) m3 := SC_tell hn.2 hb.2 kk b3 a4
    have f3 : cfr m0 m3 := ⟨fun k h1 h5 => by rw [b3.1 k h5]; exact a5.1 k h1 h5, fun i hi => by rw [b3.1 1 (by decide)]; exact a5.2 i hi⟩
    rw [a1, b_93_80, b1, rn_k, b_93_84, wr_of (x := o') (by omega) (by omega)] at st
    have ok3 := hrS_ok (N := N) h0 ok1
    by_cases z : o' = 0
    · have ng : noGo N ((h + 1) % 24) n g := (a3.mp z).2
      have still := still_1 h0 ok1 ng
      rw [itp z] at st
      refine ⟨um m3 1 0 last, st, ?_, um_s, ⟨fun k h1 h5 => by rw [um_r h1]; exact f3.1 k h1 h5, fun i hi => by rw [um_i hi]; exact f3.2 i hi⟩, b4.um (wr_of (by omega) (by omega))⟩
      rw [gN, gN_still still]
      intro p p0 p1 j0 a b
      rw [um_k (by decide)]
      exact s3 p p0 p1 j0 a b
    · rw [itn z] at st
      obtain ⟨m', p1, p2⟩ := ih (i + 1) (h + 1) (hrS N n nb (h + 1) g) m3 _ _ (by omega) (by omega) (by omega) (by omega) (by rw [b3.1 1 (by decide)]; exact a6) b4 s3 ok3 (fun p p0 p1 zz => by
        have e4 : hrS N n nb (h + 1) g p 4 = moveS N ((h + 1) % 24) n g p 4 := tellS_c (by omega)
        rw [e4] at zz ⊢
        unfold moveS at zz ⊢
        rw [cif_t ⟨p0, p1⟩] at zz ⊢
        have g4 := (goS_ok (N := N) (t := (h + 1) % 24) (g p 1).toNat (g p) 0 (ok1.1 p p0 p1)).2.1.resolve_left zz
        rw [g4]
        exact w1 p p0 p1 (by rw [← g4]; exact zz)) f3
      exact ⟨m', st.trans p1, p2⟩
theorem mapAims_ok {g : Int → Int → Int} (hr : Rng m) (hn : 0 ≤ n ∧ n ≤ 16) (h4 : m 4 3 = n) (hG : ∀ c, 0 ≤ c → c < 100 → m 2 c = m 247 (10 + c)) (hB : beside m) (hS : SC n g m) (ho : ∀ p, 0 ≤ p → p < n → rOk (g p)) : ∃ m', Z e (d + 2) 94 0 [.ref 208, .retAddr 0, .retAddr 0] [] m = rn m' ∧ (∀ p, 0 ≤ p → p < n → ¬ g p 4 = -3 → isWay (wall (m 247)) (g p 4) (m' (210 + p.toNat))) ∧ Rng m' ∧ (∀ k, ¬ k = 193 → ¬ (210 ≤ k ∧ k ≤ 225) → m' k = m k) := by
  have wn : wr n = n := wr_of (by omega) (by omega)
  have loop : ∀ (j : Nat) (q : Int) (m1 : zMm) (u2 : Value), q + j = n → 0 ≤ q → Rng m1 → (∀ p, 0 ≤ p → p < q → ¬ g p 4 = -3 → isWay (wall (m 247)) (g p 4) (m1 (210 + p.toNat))) → (∀ k, ¬ k = 193 → ¬ (210 ≤ k ∧ k ≤ 225) → m1 k = m k) → ∃ m', Z e (d + 2) 94 2 [.ref 208, .int (iI q), u2] [] m1 = rn m' ∧ (∀ p, 0 ≤ p → p < n → ¬ g p 4 = -3 → isWay (wall (m 247)) (g p 4) (m' (210 + p.toNat))) ∧ Rng m' ∧ (∀ k, ¬ k = 193 → ¬ (210 ≤ k ∧ k ≤ 225) → m' k = m k) := by
    intro j
    induction j with
    | zero =>
      intro q m1 u2 hq q0 r1 w1 f1
      refine ⟨m1, ?_, fun p p0 p1 => w1 p p0 (by omega), r1, f1⟩
      refine (b_94_2).trans ?_
      rw [f1 4 (by decide) (by omega), h4, wn, wr_of (x := q) (by omega) (by omega), itn (fun y => by omega)]
    | succ j ih =>
      intro q m1 u2 hq q0 r1 w1 f1
      have t4 := get_4 (e := e) (d := d + 1) (m := m1) (i := q) (j := 4) (by rw [f1 4 (by decide) (by omega)]; omega) (by rw [f1 4 (by decide) (by omega)]; omega) q0 (by rw [f1 4 (by decide) (by omega)]; omega) (by decide) (by decide)
      rw [f1 5 (by decide) (by omega), hS q q0 (by omega) 4 (by decide) (by decide)] at t4
      have oq := ho q q0 (by omega)
      have st : Z e (d + 2) 94 2 [.ref 208, .int (iI q), u2] [] m1 = _ := b_94_2
      rw [f1 4 (by decide) (by omega), h4, wn, wr_of (x := q) (by omega) (by omega), itp ⟨by omega, by omega⟩, t4, ri_k, b_94_34] at st
      by_cases z : g q 4 = -3
      · rw [z, itn (by decide), b_94_55] at st
        obtain ⟨m', p1, p2⟩ := ih (q + 1) m1 (.int (iI (-3))) (by omega) (by omega) r1 (fun p p0 p1 zz => by
          by_cases y : p = q
          · rw [y] at zz; exact absurd z zz
          · exact w1 p p0 (by omega) zz) f1
        exact ⟨m', st.trans p1, p2⟩
      · have ab := oq.2.2.resolve_left z
        have w4 : wr (g q 4) = g q 4 := wr_of (by omega) (by omega)
        obtain ⟨m2, a1, a2, a3, a4⟩ := R_spread (e := e) (d := d) (m := m1) (a2 := 210 + q.toNat) (a := g q 4) (zArr_209 (j := q) ⟨q0, by omega⟩) (by omega) (by omega) (by omega) (by omega) r1 (fun c c0 c1 => by rw [f1 2 (by decide) (by omega), f1 247 (by decide) (by omega)]; exact hG c c0 c1) (beside_cg (f1 192 (by decide) (by omega)) hB) ab.1 ab.2
        rw [f1 247 (by decide) (by omega)] at a2
        rw [w4, itp z, wr_of (x := q) (by omega) (by omega), ck_t (by omega), a1, rn_k, b_94_55] at st
        obtain ⟨m', p1, p2⟩ := ih (q + 1) m2 (.int (iI (g q 4))) (by omega) (by omega) a3 (fun p p0 p1 zz => by
          by_cases y : p = q
          · rw [y]; exact a2
          · rw [a4 (210 + p.toNat) (by omega) (by omega)]; exact w1 p p0 (by omega) zz) (fun k h1 h2 => by rw [a4 k (by omega) h1]; exact f1 k h1 h2)
        exact ⟨m', st.trans p1, p2⟩
  rw [b_94_0]
  exact loop n.toNat 0 m _ (by omega) (by decide) hr (fun p p0 p1 => by omega) (fun _ _ _ => rfl)
end HC
