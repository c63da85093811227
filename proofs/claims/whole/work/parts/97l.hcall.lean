/-! hours. -/
section HL
variable {e : List Int32 × Value} {d : Nat} {m : zMm} {N : Int → Int} {n nb h : Int}
def SM (n : Int) (g : Int → Int → Int) (m : zMm) : Prop := ∀ p, 0 ≤ p → p < n → rowM m p (g p) ∧ ∀ b, 0 ≤ b → b < 8 → m 247 (1106 + 8 * p + b) = g p (10 + b)
def mfr (m0 m : zMm) : Prop := (∀ k, ¬ k = 247 → ¬ k = 252 → ¬ k = 253 → m k = m0 k) ∧ (∀ i, ¬ (i = 0 ∨ (110 ≤ i ∧ i < 254) ∨ (1106 ≤ i ∧ i < 1234)) → m 247 i = m0 247 i)
theorem mEnv_of {m0 : zMm} (f : mfr m0 m) (e0 : m 247 0 = h) (h1 : m0 247 1 = n) (hN : ∀ i, (10 ≤ i ∧ i < 110) ∨ i = 6 ∨ (1050 ≤ i ∧ i < 1082) → m0 247 i = N i) : mEnv N n h m := ⟨e0, by rw [f.2 1 (by omega)]; exact h1, fun i hi => by rw [f.2 i (by omega)]; exact hN i hi⟩
theorem M_persons {m0 : zMm} {g : Int → Int → Int} {x1 x2 : Int} (b6 : 0 ≤ N 6 ∧ N 6 ≤ 8) (hP : ∀ p, 0 ≤ p → p < N 6 → 0 ≤ N (1050 + 4 * p) ∧ N (1050 + 4 * p) < 100) (h0 : 0 ≤ h) (h9 : h ≤ 9999) (hn : 0 ≤ n ∧ n ≤ 16) (h1 : m0 247 1 = n) (hN : ∀ i, (10 ≤ i ∧ i < 110) ∨ i = 6 ∨ (1050 ≤ i ∧ i < 1082) → m0 247 i = N i) (ho : ∀ p, 0 ≤ p → p < n → rOk (g p)) : ∀ (j : Nat) (q : Int) (m1 : zMm), q + j = n → 0 ≤ q → Rng m1 → SM n (mixS N (h % 24) n q g) m1 → mfr m0 m1 → m1 247 0 = h → ∃ m', Z e (d + 5) 282 48 [.ref 246, .int (iI x1), .int (iI x2), .int (iI q)] [] m1 = Z e (d + 5) 282 86 [.ref 246, .int (iI x1), .int (iI x2), .int (iI 0)] [] m' ∧ SM n (moveS N (h % 24) n g) m' ∧ mfr m0 m' ∧ m' 247 0 = h ∧ Rng m' := by
  intro j
  have wn : wr n = n := wr_of (by omega) (by omega)
  induction j with
  | zero =>
    intro q m1 hq q0 r1 s1 f1 e1
    have : q = n := by omega
    subst this
    refine ⟨m1, ?_, ?_, f1, e1, r1⟩
    · refine (b_282_48).trans ?_
      rw [f1.2 1 (by omega), h1, wn, itn (by omega)]
    · intro p p0 p1
      have := s1 p p0 p1
      unfold mixS at this
      rw [cif_t p1] at this
      exact this
  | succ j ih =>
    intro q m1 hq q0 r1 s1 f1 e1
    have q1 : q < n := by omega
    have hS : rowM m1 q (g q) ∧ ∀ b, 0 ≤ b → b < 8 → m1 247 (1106 + 8 * q + b) = g q (10 + b) := by
      have := s1 q q0 q1
      unfold mixS at this
      rw [cif_f (by omega)] at this
      exact this
    have y4 : wr (110 + 9 * q + 4) = 110 + 9 * q + 4 := wr_of (by omega) (by omega)
    have z4 : 0 ≤ 110 + 9 * q + 4 ∧ 110 + 9 * q + 4 < 2737 := by omega
    have w4 : wr (g q 4) = g q 4 := by rw [← hS.1 4 (by decide) (by decide)]; exact r1 _ _
    have oq := ho q q0 q1
    have st : Z e (d + 5) 282 48 [.ref 246, .int (iI x1), .int (iI x2), .int (iI q)] [] m1 = _ := b_282_48
    rw [f1.2 1 (by omega), h1, wn, wr_of (x := q) (by omega) (by omega), itp q1, y4, ck_t z4, hS.1 4 (by decide) (by decide), w4] at st
    have nextS : ∀ m2 : zMm, rowM m2 q (goS N (h % 24) (g q 1).toNat (g q) 0).1 → rowG m1 m2 q → SM n (mixS N (h % 24) n (q + 1) g) m2 := by
      intro m2 hR hG p p0 p1
      by_cases z : p = q
      · subst z
        unfold mixS
        rw [cif_t (by omega)]
        unfold moveS
        rw [cif_t ⟨p0, p1⟩]
        refine ⟨hR, fun b b0 b1 => ?_⟩
        rw [hG.2 _ (by omega), goS_col (by omega)]
        exact hS.2 b b0 b1
      · have old := s1 p p0 p1
        have eq : mixS N (h % 24) n (q + 1) g p = mixS N (h % 24) n q g p := by
          unfold mixS
          by_cases y : p < q
          · rw [cif_t y, cif_t (by omega)]
          · rw [cif_f y, cif_f (by omega)]
        rw [eq]
        refine ⟨fun j' j0 j1 => ?_, fun b b0 b1 => ?_⟩
        · rw [hG.2 _ (by omega)]; exact old.1 j' j0 j1
        · rw [hG.2 _ (by omega)]; exact old.2 b b0 b1
    by_cases z : g q 4 = -3
    · rw [itn (fun y => y z), b_282_78] at st
      have gid : goS N (h % 24) (g q 1).toNat (g q) 0 = (g q, 0) := goS_id (Or.inl z)
      obtain ⟨m', p1, p2⟩ := ih (q + 1) m1 (by omega) (by omega) r1 (nextS m1 (by rw [gid]; exact hS.1) ⟨fun _ _ _ _ => rfl, fun _ _ => rfl⟩) f1 e1
      exact ⟨m', st.trans p1, p2⟩
    · obtain ⟨m2, a1, a2, a3, a4⟩ := M_runs (e := e) (d := d) (m := m1) (N := N) (n := n) (h := h) (p := q) (r := g q) r1 b6 hP (mEnv_of f1 e1 h1 hN) h0 h9 q0 (by omega) hS.1 oq z
      rw [itp z, a1, rn_k, b_282_78] at st
      obtain ⟨m', p1, p2⟩ := ih (q + 1) m2 (by omega) (by omega) a4 (nextS m2 a2 a3) ⟨fun k k1 k2 k3 => by rw [a3.1 k k1 k2 k3]; exact f1.1 k k1 k2 k3, fun i hi => by rw [a3.2 i (by omega)]; exact f1.2 i hi⟩ (by rw [a3.2 0 (by omega)]; exact e1)
      exact ⟨m', st.trans p1, p2⟩
theorem M_hours {m0 : zMm} {hrs : Int} (b6 : 0 ≤ N 6 ∧ N 6 ≤ 8) (hP : ∀ p, 0 ≤ p → p < N 6 → 0 ≤ N (1050 + 4 * p) ∧ N (1050 + 4 * p) < 100) (hn : 0 ≤ n ∧ n ≤ 16) (hb : 0 ≤ nb ∧ nb ≤ 8) (h1 : m0 247 1 = n) (h7 : m0 247 7 = nb) (hN : ∀ i, (10 ≤ i ∧ i < 110) ∨ i = 6 ∨ (1050 ≤ i ∧ i < 1082) → m0 247 i = N i) (hh : 0 ≤ hrs ∧ hrs ≤ 100) : ∀ (j : Nat) (k h : Int) (g : Int → Int → Int) (m1 : zMm) (u3 : Value), k + j = hrs → 0 ≤ k → h + j ≤ 9999 → 0 ≤ h → m1 247 0 = h → Rng m1 → SM n g m1 → gOk n nb h g → mfr m0 m1 → ∃ m', Z e (d + 5) 282 31 [.ref 246, .int (iI hrs), .int (iI k), u3] [] m1 = ri (h + j) m' ∧ SM n (gN N n nb j h g) m' ∧ m' 247 0 = h + j ∧ mfr m0 m' ∧ Rng m' := by
  intro j
  have wh : wr hrs = hrs := wr_of (by omega) (by omega)
  induction j with
  | zero =>
    intro k h g m1 u3 hk k0 hl h0 e1 r1 s1 ok1 f1
    refine ⟨m1, ?_, s1, by rw [e1]; omega, f1, r1⟩
    refine (b_282_31).trans ?_
    rw [wh, wr_of (x := k) (by omega) (by omega), itn (by omega), e1, show h + ((0 : Nat) : Int) = h by omega]
  | succ j ih =>
    intro k h g m1 u3 hk k0 hl h0 e1 r1 s1 ok1 f1
    have st : Z e (d + 5) 282 31 [.ref 246, .int (iI hrs), .int (iI k), u3] [] m1 = _ := b_282_31
    rw [wh, wr_of (x := k) (by omega) (by omega), itp (by omega), e1] at st
    have sA : SM n (mixS N ((h + 1) % 24) n 0 g) (um m1 247 0 (h + 1)) := by
      intro p p0 p1
      unfold mixS
      rw [cif_f (by omega)]
      refine ⟨fun j0 a b => by rw [um_i (by omega)]; exact (s1 p p0 p1).1 j0 a b, fun b b0 b1 => by rw [um_i (by omega)]; exact (s1 p p0 p1).2 b b0 b1⟩
    have fA : mfr m0 (um m1 247 0 (h + 1)) := ⟨fun k k1 k2 k3 => by rw [um_r k1]; exact f1.1 k k1 k2 k3, fun i hi => by rw [um_i (by omega)]; exact f1.2 i hi⟩
    obtain ⟨m2, a1, a2, a3, a4, a5⟩ := M_persons (e := e) (d := d) (N := N) (h := h + 1) (m0 := m0) (g := g) (x1 := hrs) (x2 := k) b6 hP (by omega) (by omega) hn h1 hN ok1.1 n.toNat 0 (um m1 247 0 (h + 1)) (by omega) (by decide) (r1.um (wr_of (by omega) (by omega))) sA fA um_s
    have mok := moveS_ok (N := N) (t := (h + 1) % 24) ok1
    obtain ⟨m3, b1, b2, b3, b4⟩ := M_bells (e := e) (d := d + 3) (m := m2) (H := rdM m2) (C := ceS (moveS N ((h + 1) % 24) n g)) (n := n) (nb := nb) (h := h + 1) (x := hrs) (k0 := k) a5 hn hb (by omega) (by omega) a4 (by rw [a3.2 1 (by omega)]; exact h1) (by rw [a3.2 7 (by omega)]; exact h7) rfl (fun p p0 p1 => (a2 p p0 p1).1 0 (by decide) (by decide)) (fun p p0 p1 => by have := (mok.1 p p0 p1).1; exact wr_of (by unfold ceS; omega) (by unfold ceS; omega))
    have s3 : SM n (hrS N n nb (h + 1) g) m3 := by
      intro p p0 p1
      refine ⟨fun j' j0 j1 => ?_, fun b b0 b1 => ?_⟩
      · rw [b3.2 _ (fun p' b' _ _ _ _ => by omega)]
        unfold hrS
        rw [tellS_c (by omega)]
        exact (a2 p p0 p1).1 j' j0 j1
      · by_cases z : b < nb
        · have q := b2 p b p0 p1 b0 z
          have eqH : ∀ i, 0 ≤ i → i < n → rdM m2 i b = moveS N ((h + 1) % 24) n g i (10 + b) := fun i i0 i1 => (a2 i i0 i1).2 b b0 b1
          have q2 : m3 247 (1106 + 8 * p + b) = _ := q
          rw [q2, eqH p p0 p1]
          unfold hrS tellS
          rw [show 10 + b - 10 = b by omega]
          refine cif_cg ⟨fun y => ⟨⟨p0, p1⟩, ⟨by omega, by omega⟩, y.1, ?_⟩, fun y => ⟨y.2.2.1, ?_⟩⟩
          · obtain ⟨_, i, y1, _, y2⟩ := y
            unfold tld at y2 ⊢
            unfold hdS
            rw [eqH i y1.1 y1.2] at y2
            exact ⟨i, y1, y2⟩
          · obtain ⟨_, _, _, i, y1, y2⟩ := y
            refine ⟨i, y1, trivial, ?_⟩
            unfold tld at y2 ⊢
            unfold hdS at y2
            rw [eqH i y1.1 y1.2]
            exact y2
        · rw [b3.2 _ (fun p' b' c0 c1 c2 c3 => by omega)]
          unfold hrS
          rw [tellS_c (by omega)]
          exact (a2 p p0 p1).2 b b0 b1
    have f3 : mfr m0 m3 := ⟨fun k k1 k2 k3 => by rw [b3.1 k k1]; exact a3.1 k k1 k2 k3, fun i hi => by rw [b3.2 i (fun p' b' _ _ _ _ => by omega)]; exact a3.2 i hi⟩
    obtain ⟨m', p1, p2, p3, p4⟩ := ih (k + 1) (h + 1) (hrS N n nb (h + 1) g) m3 (.int (iI nb)) (by omega) (by omega) (by omega) (by omega) (by rw [b3.2 0 (fun p' b' _ _ _ _ => by omega)]; exact a4) b4 s3 (hrS_ok h0 ok1) f3
    have ej : h + 1 + (j : Int) = h + ((j + 1 : Nat) : Int) := by omega
    rw [ej] at p1 p3
    exact ⟨m', st.trans (a1.trans (b1.trans p1)), p2, p3, p4⟩
theorem call_hours {x : Int} (hI : Inv m) (hx : wr x = x) : Both (Z e (d + 7) 139 0 [.ref 0, .int (iI (x))] []) (Z e (d + 5) 282 0 [.ref 246, .int (iI (x)), .retAddr 0, .retAddr 0] []) m := by
  obtain ⟨hr, ⟨iN, iG, iP, iH, iS, iD, iT, iO, iU, iR, iV⟩, iK, iL, iF, iB, iA, iW, iX⟩ := id hI
  have bN := iN
  unfold cNum at bN
  by_cases h1 : 1 ≤ x ∧ x ≤ 100
  · by_cases h2 : m 247 0 + x ≤ 9999
    · obtain ⟨g, hg⟩ : ∃ g : Int → Int → Int, g = fun p j => m 5 (p * 18 + j) := ⟨_, rfl⟩
      have sc : SC (m 247 1) g m := fun p p0 p1 j j0 j1 => by rw [hg]
      have gv : ∀ p f, 0 ≤ p → p < m 247 1 → 0 ≤ f → f < 9 → g p f = m 247 (110 + 9 * p + f) := fun p f p0 p1 f0 f1 => by
        rw [hg]
        exact (iP p p0 p1).1 f f0 f1
      have gh : ∀ p b, 0 ≤ p → p < m 247 1 → 0 ≤ b → b < 8 → g p (10 + b) = m 247 (1106 + 8 * p + b) := fun p b p0 p1 b0 b1 => by
        rw [hg]
        exact (iH p p0 p1 b b0 b1).1
      have gok : gOk (m 247 1) (m 247 7) (m 247 0) g := by
        refine ⟨fun p p0 p1 => ?_, fun p b p0 p1 b0 b1 => ?_⟩
        · have q := (iP p p0 p1).2
          unfold rOk
          rw [gv p 0 p0 p1 (by decide) (by decide), gv p 1 p0 p1 (by decide) (by decide), gv p 4 p0 p1 (by decide) (by decide)]
          exact ⟨q.1, q.2.1, q.2.2.2.2.1⟩
        · rw [gh p b p0 p1 b0 (by omega)]
          exact (iH p p0 p1 b b0 (by omega)).2.1
      have hn : 0 ≤ m 247 1 ∧ m 247 1 ≤ 16 := by omega
      have hb : 0 ≤ m 247 7 ∧ m 247 7 ≤ 8 := by omega
      have b6 : 0 ≤ m 247 6 ∧ m 247 6 ≤ 8 := by omega
      have wN : Rng (fun _ => m 247) := fun _ i => hr 247 i
      obtain ⟨m0, a1, a2, a3, a4⟩ := mapAims_ok (e := e) (d := d + 3) (m := m) (n := m 247 1) (g := g) hr hn bN.2.1.1 (fun c c0 c1 => (iG c c0 c1).1) iB sc gok.1
      have e00 : m0 1 0 = m 247 0 := by rw [a4 1 (by decide) (by omega)]; exact bN.1.1
      have sc0 : SC (m 247 1) g m0 := fun p p0 p1 j j0 j1 => by rw [a4 5 (by decide) (by omega)]; exact sc p p0 p1 j j0 j1
      have hO0 : cPos m0 (m 247) := by
        intro q q0 q1
        have := iO q q0 q1
        unfold oRow at this ⊢
        rw [a4 15 (by decide) (by omega)]
        exact this
      obtain ⟨m1, b1, b2, b3, b4, b5⟩ := C_hours (e := e) (d := d) (N := m 247) (n := m 247 1) (nb := m 247 7) (m0 := m0) (hrs := x) (last := m 247 0 + x) wN b6 hn hb (by rw [a4 4 (by decide) (by omega)]; exact bN.2.1.1) (by rw [a4 1 (by decide) (by omega)]; omega) (by rw [a4 14 (by decide) (by omega)]; omega) hO0 (beside_cg (a4 192 (by decide) (by omega)) iB) (by omega) (by omega) (by omega) x.toNat 0 (m 247 0) g m0 (.retAddr 0) (.retAddr 0) (by omega) (by decide) (by omega) (by omega) e00 a3 sc0 gok a2 ⟨fun _ _ _ => rfl, fun _ _ => rfl⟩
      have f1 : ∀ k, ¬ k = 1 → ¬ k = 5 → ¬ k = 193 → ¬ (210 ≤ k ∧ k ≤ 225) → m1 k = m k := fun k k1 k5 k3 k2 => by rw [b4.1 k k1 k5]; exact a4 k k3 k2
      have e247 : m1 247 = m 247 := f1 247 (by decide) (by decide) (by decide) (by omega)
      have sm : SM (m 247 1) g m1 := fun p p0 p1 => ⟨fun j j0 j1 => by rw [e247]; exact (gv p j p0 p1 j0 j1).symm, fun b c0 c1 => by rw [e247]; exact (gh p b p0 p1 c0 c1).symm⟩
      obtain ⟨m2, c1, c2, c3, c4, c5⟩ := M_hours (e := e) (d := d) (N := m 247) (n := m 247 1) (nb := m 247 7) (m0 := m1) (hrs := x) b6 (pos_b iO) hn hb (by rw [e247]) (by rw [e247]) (fun i _ => by rw [e247]) (by omega) x.toNat 0 (m 247 0) g m1 (.retAddr 0) (by omega) (by decide) (by omega) (by omega) (by rw [e247]) b5 sm gok ⟨fun _ _ _ _ => rfl, fun _ _ => rfl⟩
      have xn : (x.toNat : Int) = x := by omega
      rw [xn] at c1 c3
      have gk := gN_ok (N := m 247) x.toNat (m 247 0) g (by omega) gok
      rw [xn] at gk
      have gcol : ∀ p j, ¬ (j = 0 ∨ j = 4 ∨ j = 5 ∨ j = 6) → ¬ (10 ≤ j ∧ j < 10 + m 247 7) → gN (m 247) (m 247 1) (m 247 7) x.toNat (m 247 0) g p j = g p j := fun p j q1 q2 => gN_col q1 q2 x.toNat (m 247 0) g
      generalize gN (m 247) (m 247 1) (m 247 7) x.toNat (m 247 0) g = G at *
      have k2 : ∀ k, ¬ k = 247 → ¬ k = 252 → ¬ k = 253 → m2 k = m1 k := c4.1
      have n2 : ∀ i, ¬ (i = 0 ∨ (110 ≤ i ∧ i < 254) ∨ (1106 ≤ i ∧ i < 1234)) → m2 247 i = m 247 i := fun i hi => by rw [c4.2 i hi, e247]
      have i1 : ∀ i, ¬ i = 0 → m2 1 i = m 1 i := fun i hi => by rw [k2 1 (by decide) (by decide) (by decide), b4.2 i hi, a4 1 (by decide) (by omega)]
      refine ⟨m 247 0 + x, m1, m2, ?_, ?_, ?_⟩
      · have w0 : wr (m 247 0 + x) = m 247 0 + x := wr_of (by omega) (by omega)
        rw [b_139_0, hx, itn (by omega), bN.1.1, w0, itn (by omega), b_93_0, a1, rn_k, b_93_4, e00, b1, rn_k, b_139_39, b3]
      · refine Eq.trans ?_ c1
        simp (disch := first | omega | (simp (disch := first | decide | omega) only [um_k, um_e, um_i, uz_k]; omega) | exact cat_i | exact cat_u | exact cat_r | assumption | exact rfl) only [b_282_0, hx, e247, hr _ _, wr_of, ↓reduceIte, ck_T, lt_T, lt_F, le_T, le_F, eq_T, eq_F, and_true, true_and, and_false, false_and, or_true, true_or, or_false, false_or, and_self, or_self, not_true_eq_false, not_false_eq_true, implies_true, forall_const, true_implies, false_implies, ri_k, rn_k, rr_k, wr_bi, bi_e0, bi_e1, bi_T, bi_F, Classical.not_not, itp, itn, ck_t]
      · refine Inv_A hI c5 (fun k q1 q4 q5 q7 q8 => ?_) (fun i hi => n2 i (by omega)) (by rw [c3]; omega) (by rw [n2 1 (by omega)]; exact Int.le_refl _) ?_ ?_ ?_
        · unfold Scr at q8
          rw [k2 k q7 (by omega) (by omega)]
          exact f1 k q1 q5 (by omega) (by omega)
        · unfold cNum
          rw [k2 1 (by decide) (by decide) (by decide), b3, c3, ← k2 1 (by decide) (by decide) (by decide), i1 2 (by decide), i1 1 (by decide), k2 4 (by decide) (by decide) (by decide), k2 6 (by decide) (by decide) (by decide), k2 8 (by decide) (by decide) (by decide), k2 10 (by decide) (by decide) (by decide), k2 12 (by decide) (by decide) (by decide), k2 14 (by decide) (by decide) (by decide), k2 16 (by decide) (by decide) (by decide), f1 4 (by decide) (by decide) (by decide) (by omega), f1 6 (by decide) (by decide) (by decide) (by omega), f1 8 (by decide) (by decide) (by decide) (by omega), f1 10 (by decide) (by decide) (by decide) (by omega), f1 12 (by decide) (by decide) (by decide) (by omega), f1 14 (by decide) (by decide) (by decide) (by omega), f1 16 (by decide) (by decide) (by decide) (by omega), n2 1 (by omega), n2 2 (by omega), n2 3 (by omega), n2 4 (by omega), n2 5 (by omega), n2 6 (by omega), n2 7 (by omega), n2 8 (by omega)]
          omega
        · intro p p0 p1
          rw [n2 1 (by omega)] at p1
          have rc := b2 p p0 p1
          have rm := (c2 p p0 p1).1
          have old := (iP p p0 p1).2
          have ok := gk.1 p p0 p1
          have o2 : G p 2 = m 247 (110 + 9 * p + 2) := by rw [gcol p 2 (by omega) (by omega)]; exact gv p 2 p0 p1 (by decide) (by decide)
          have o3 : G p 3 = m 247 (110 + 9 * p + 3) := by rw [gcol p 3 (by omega) (by omega)]; exact gv p 3 p0 p1 (by decide) (by decide)
          have o7 : G p 7 = m 247 (110 + 9 * p + 7) := by rw [gcol p 7 (by omega) (by omega)]; exact gv p 7 p0 p1 (by decide) (by decide)
          unfold pRow
          rw [rm 0 (by decide) (by decide), rm 1 (by decide) (by decide), rm 2 (by decide) (by decide), rm 3 (by decide) (by decide), rm 4 (by decide) (by decide), rm 7 (by decide) (by decide), o2, o3, o7]
          refine ⟨fun f f0 f9 => ?_, ok.1, ok.2.1, old.2.2.1, old.2.2.2.1, ok.2.2, old.2.2.2.2.2⟩
          rw [k2 5 (by decide) (by decide) (by decide), rc f f0 (by omega), rm f f0 f9]
        · intro p p0 p1 b c0 c8
          rw [n2 1 (by omega)] at p1
          have rc := b2 p p0 p1
          have rm := (c2 p p0 p1).2 b c0 c8
          rw [k2 5 (by decide) (by decide) (by decide), rc (10 + b) (by omega) (by omega), rm, c3, n2 7 (by omega)]
          refine ⟨rfl, ?_, fun z => ?_⟩
          · by_cases z : b < m 247 7
            · exact gk.2 p b p0 p1 c0 z
            · rw [gcol p (10 + b) (by omega) (by omega), gh p b p0 p1 c0 c8]
              exact Or.inl ((iH p p0 p1 b c0 c8).2.2 (by omega))
          · rw [gcol p (10 + b) (by omega) (by omega), gh p b p0 p1 c0 c8]
            exact (iH p p0 p1 b c0 c8).2.2 z
    · refine Both.same hI (-4) ?_ ?_
      · have w0 : wr (m 247 0 + x) = m 247 0 + x := wr_of (by omega) (by omega)
        rw [b_139_0, hx, itn (by omega), bN.1.1, w0, itp (by omega)]
      · simp (disch := first | omega | (simp (disch := first | decide | omega) only [um_k, um_e, um_i, uz_k]; omega) | exact cat_i | exact cat_u | exact cat_r | assumption | exact rfl) only [b_282_0, hx, hr _ _, wr_of, ↓reduceIte, ck_T, lt_T, lt_F, le_T, le_F, eq_T, eq_F, and_true, true_and, and_false, false_and, or_true, true_or, or_false, false_or, and_self, or_self, not_true_eq_false, not_false_eq_true, implies_true, forall_const, true_implies, false_implies, ri_k, rn_k, rr_k, wr_bi, bi_e0, bi_e1, bi_T, bi_F, Classical.not_not, itp, itn, ck_t]
  · refine Both.same hI (-1) ?_ ?_
    · simp (disch := first | omega | (simp (disch := first | decide | omega) only [um_k, um_e, um_i, uz_k]; omega) | exact cat_i | exact cat_u | exact cat_r | assumption | exact rfl) only [b_139_0, hx, wr_of, ↓reduceIte, ck_T, lt_T, lt_F, le_T, le_F, eq_T, eq_F, and_true, true_and, and_false, false_and, or_true, true_or, or_false, false_or, and_self, or_self, not_true_eq_false, not_false_eq_true, implies_true, forall_const, true_implies, false_implies, ri_k, rn_k, rr_k, wr_bi, bi_e0, bi_e1, bi_T, bi_F, Classical.not_not, itp, itn, ck_t]
    · simp (disch := first | omega | (simp (disch := first | decide | omega) only [um_k, um_e, um_i, uz_k]; omega) | exact cat_i | exact cat_u | exact cat_r | assumption | exact rfl) only [b_282_0, hx, wr_of, ↓reduceIte, ck_T, lt_T, lt_F, le_T, le_F, eq_T, eq_F, and_true, true_and, and_false, false_and, or_true, true_or, or_false, false_or, and_self, or_self, not_true_eq_false, not_false_eq_true, implies_true, forall_const, true_implies, false_implies, ri_k, rn_k, rr_k, wr_bi, bi_e0, bi_e1, bi_T, bi_F, Classical.not_not, itp, itn, ck_t]
end HL
