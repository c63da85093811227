/-! Hours: bells, the reference. -/
section TM
variable {e : List Int32 × Value} {d : Nat} {m : zMm}
variable {H : Int → Int → Int} {C : Int → Int} {n nb h : Int} {D D' : Int → Int → Int → Prop} {rd rd' : Int → Int → Int}
def rdM (m : zMm) : Int → Int → Int := fun q b => m 247 (1106 + 8 * q + b)
def belG (nb : Int) (m m' : zMm) : Prop := (∀ k, ¬ k = 247 → m' k = m k) ∧ (∀ i, (∀ p b, 0 ≤ p → p < 16 → 0 ≤ b → b < nb → ¬ i = 1106 + 8 * p + b) → m' 247 i = m 247 i)
theorem tellOn_ok {b : Int} {m0 : zMm} (hr : Rng m) (hn : 0 ≤ n ∧ n ≤ 16) (hb : nb ≤ 8) (h0 : 0 ≤ h) (h9 : h ≤ 9999) (b0 : 0 ≤ b) (b1 : b < nb) (e0 : m0 247 0 = h) (e1 : m0 247 1 = n) (hC : ∀ p, 0 ≤ p → p < n → m0 247 (110 + 9 * p + 0) = C p) (wC : ∀ p, 0 ≤ p → p < n → wr (C p) = C p) (k : Kd H C n nb h (fun _ _ b' => b' < b) (rdM m)) (hF : belG nb m0 m) : ∃ m', Z e (d + 1) 281 0 [.ref 246, .int (iI b), .retAddr 0, .retAddr 0, .retAddr 0] [] m = rn m' ∧ Kd H C n nb h (fun _ _ b' => b' < b + 1) (rdM m') ∧ belG nb m0 m' ∧ Rng m' := by
  have wn : wr n = n := wr_of (by omega) (by omega)
  have wh : wr h = h := wr_of (by omega) (by omega)
  have rdN : ∀ {m1 : zMm}, belG nb m0 m1 → m1 247 0 = h ∧ m1 247 1 = n ∧ ∀ p, 0 ≤ p → p < n → m1 247 (110 + 9 * p + 0) = C p := fun {m1} f => ⟨by rw [f.2 0 (fun _ _ _ _ _ _ => by omega)]; exact e0, by rw [f.2 1 (fun _ _ _ _ _ _ => by omega)]; exact e1, fun p p0 p1 => by rw [f.2 _ (fun _ _ _ _ _ _ => by omega)]; exact hC p p0 p1⟩
  have inner : ∀ (i x : Int), 0 ≤ i → i < n → (¬ x = -3 ∧ x < h) → wr x = x → (¬ H i b = -3 ∧ H i b < h) → ∀ (j : Nat) (q : Int) (m1 : zMm), q + j = n → 0 ≤ q → Rng m1 → Kd H C n nb h (fun i' q' b' => b' < b ∨ (b' = b ∧ (i' < i ∨ (i' = i ∧ q' < q)))) (rdM m1) → belG nb m0 m1 → ∃ m', Z e (d + 1) 281 31 [.ref 246, .int (iI b), .int (iI i), .int (iI x), .int (iI q)] [] m1 = Z e (d + 1) 281 2 [.ref 246, .int (iI b), .int (iI (i + 1)), .int (iI x), .int (iI n)] [] m' ∧ Kd H C n nb h (fun i' q' b' => b' < b ∨ (b' = b ∧ i' < i + 1)) (rdM m') ∧ belG nb m0 m' ∧ Rng m' := by
    intro i x i0 i1 hx wx hxi j
    induction j with
    | zero =>
      intro q m1 hq q0 r1 k1 f1
      have en := rdN f1
      have : q = n := by omega
      subst this
      refine ⟨m1, ?_, k1.cg (fun i' q' b' _ _ _ hq' _ _ _ => ⟨fun y => by omega, fun y => by omega⟩), f1, r1⟩
      refine (b_281_31).trans ?_
      rw [en.2.1, wn, itn (fun y => by omega)]
    | succ j ih =>
      intro q m1 hq q0 r1 k1 f1
      obtain ⟨n0, n1, nc⟩ := rdN f1
      have y1 : wr (1106 + 8 * q + b) = 1106 + 8 * q + b := wr_of (by omega) (by omega)
      have z1 : 0 ≤ 1106 + 8 * q + b ∧ 1106 + 8 * q + b < 2737 := by omega
      have y2 : wr (110 + 9 * q + 0) = 110 + 9 * q + 0 := wr_of (by omega) (by omega)
      have y3 : wr (110 + 9 * i + 0) = 110 + 9 * i + 0 := wr_of (by omega) (by omega)
      have z2 : 0 ≤ 110 + 9 * q + 0 ∧ 110 + 9 * q + 0 < 2737 := by omega
      have z3 : 0 ≤ 110 + 9 * i + 0 ∧ 110 + 9 * i + 0 < 2737 := by omega
      have st : Z e (d + 1) 281 31 [.ref 246, .int (iI b), .int (iI i), .int (iI x), .int (iI q)] [] m1 = _ := b_281_31
      rw [n1, wn, n0, wh, wx, wr_of (x := q) (by omega) (by omega), itp ⟨by omega, hx⟩, y1, ck_t z1, y2, y3, nc q q0 (by omega), nc i i0 i1, wC q q0 (by omega), wC i i0 i1, r1, ck_t (fun _ => ⟨z2, z3⟩)] at st
      have tl : tld H C h i q b ↔ C i = C q := ⟨fun z => z.1, fun z => ⟨z, hxi⟩⟩
      have fin : ∀ m2 : zMm, Kd H C n nb h (fun i' q' b' => (b' < b ∨ (b' = b ∧ (i' < i ∨ (i' = i ∧ q' < q)))) ∨ (i' = i ∧ q' = q ∧ b' = b)) (rdM m2) → Kd H C n nb h (fun i' q' b' => b' < b ∨ (b' = b ∧ (i' < i ∨ (i' = i ∧ q' < q + 1)))) (rdM m2) := fun m2 k2 => k2.cg (fun i' q' b' _ _ _ _ _ _ _ => ⟨fun z => by omega, fun z => by omega⟩)
      by_cases c1 : m1 247 (1106 + 8 * q + b) = -3 ∧ C q = C i
      · rw [itp c1, ck_t z1] at st
        have f2 : belG nb m0 (um m1 247 (1106 + 8 * q + b) h) := ⟨fun k' hk' => by rw [um_r hk']; exact f1.1 k' hk', fun i hi => by rw [um_i (hi q b q0 (by omega) b0 b1)]; exact f1.2 i hi⟩
        obtain ⟨m', p1, p2⟩ := ih (q + 1) (um m1 247 (1106 + 8 * q + b) h) (by omega) (by omega) (r1.um wh) (fin _ (k1.step h0 i0 i1 q0 (by omega) b0 b1 ⟨fun _ => um_s, fun z => absurd ⟨tl.mpr c1.2.symm, c1.1⟩ z⟩ (fun q' b' y0 y1 y2 y3 y4 => by unfold rdM; rw [um_i (by omega)]))) f2
        exact ⟨m', st.trans p1, p2⟩
      · rw [itn c1] at st
        obtain ⟨m', p1, p2⟩ := ih (q + 1) m1 (by omega) (by omega) r1 (fin _ (k1.step h0 i0 i1 q0 (by omega) b0 b1 ⟨fun z => absurd ⟨z.2, (tl.mp z.1).symm⟩ c1, fun _ => rfl⟩ (fun _ _ _ _ _ _ _ => rfl))) f1
        exact ⟨m', st.trans p1, p2⟩
  have outer : ∀ (j : Nat) (i : Int) (m1 : zMm) (u3 u4 : Value), i + j = n → 0 ≤ i → Rng m1 → Kd H C n nb h (fun i' q' b' => b' < b ∨ (b' = b ∧ i' < i)) (rdM m1) → belG nb m0 m1 → ∃ m', Z e (d + 1) 281 2 [.ref 246, .int (iI b), .int (iI i), u3, u4] [] m1 = rn m' ∧ Kd H C n nb h (fun _ _ b' => b' < b + 1) (rdM m') ∧ belG nb m0 m' ∧ Rng m' := by
    intro j
    induction j with
    | zero =>
      intro i m1 u3 u4 hi i0 r1 k1 f1
      obtain ⟨n0, n1, nc⟩ := rdN f1
      refine ⟨m1, ?_, k1.cg (fun i' _ b' _ hi' _ _ _ _ _ => ⟨fun y => by omega, fun y => by omega⟩), f1, r1⟩
      refine (b_281_2).trans ?_
      rw [n1, wn, wr_of (x := i) (by omega) (by omega), itn (by omega)]
    | succ j ih =>
      intro i m1 u3 u4 hi i0 r1 k1 f1
      obtain ⟨n0, n1, nc⟩ := rdN f1
      have y1 : wr (1106 + 8 * i + b) = 1106 + 8 * i + b := wr_of (by omega) (by omega)
      have z1 : 0 ≤ 1106 + 8 * i + b ∧ 1106 + 8 * i + b < 2737 := by omega
      have tt := k1.tells i0 (by omega) b0 b1
      have st : Z e (d + 1) 281 2 [.ref 246, .int (iI b), .int (iI i), u3, u4] [] m1 = _ := b_281_2
      rw [n1, wn, wr_of (x := i) (by omega) (by omega), itp (by omega), y1, ck_t z1] at st
      by_cases c1 : ¬ m1 247 (1106 + 8 * i + b) = -3 ∧ m1 247 (1106 + 8 * i + b) < h
      · obtain ⟨m2, a1, a2, a3, a4⟩ := inner i (m1 247 (1106 + 8 * i + b)) i0 (by omega) c1 (r1 _ _) (tt.mp c1) n.toNat 0 m1 (by omega) (by decide) r1 (k1.cg (fun i' q' b' _ _ hq' _ _ _ _ => ⟨fun y => by omega, fun y => by omega⟩)) f1
        obtain ⟨m', p1, p2⟩ := ih (i + 1) m2 _ _ (by omega) (by omega) a4 a2 a3
        exact ⟨m', st.trans (a1.trans p1), p2⟩
      · have nt : ¬ (¬ H i b = -3 ∧ H i b < h) := fun z => c1 (tt.mpr z)
        obtain ⟨m', p1, p2⟩ := ih (i + 1) m1 (.int (iI (m1 247 (1106 + 8 * i + b)))) (.int (iI 0)) (by omega) (by omega) r1 (k1.cg (fun i' q' b' _ _ _ _ _ _ tl => ⟨fun y => by omega, fun y => by
          rcases y with y | y
          · exact Or.inl y
          · by_cases w : i' = i
            · have := tl.2
              rw [w, y.1] at this
              exact absurd this nt
            · exact Or.inr ⟨y.1, by omega⟩⟩)) f1
        refine ⟨m', ?_, p2⟩
        rw [st, ← p1]
        refine (b_281_31).trans ?_
        rw [n1, wn, n0, wh, r1, itn (fun y => c1 y.2)]
  rw [b_281_0]
  exact outer n.toNat 0 m _ _ (by omega) (by decide) hr (k.cg (fun i' q' b' hi' _ _ _ _ _ _ => ⟨fun y => Or.inl y, fun y => by omega⟩)) hF
theorem M_bells {x k0 : Int} (hr : Rng m) (hn : 0 ≤ n ∧ n ≤ 16) (hb : 0 ≤ nb ∧ nb ≤ 8) (h0 : 0 ≤ h) (h9 : h ≤ 9999) (e0 : m 247 0 = h) (e1 : m 247 1 = n) (e7 : m 247 7 = nb) (hH : H = rdM m) (hC : ∀ p, 0 ≤ p → p < n → m 247 (110 + 9 * p + 0) = C p) (wC : ∀ p, 0 ≤ p → p < n → wr (C p) = C p) : ∃ m', Z e (d + 2) 282 86 [.ref 246, .int (iI x), .int (iI k0), .int (iI 0)] [] m = Z e (d + 2) 282 31 [.ref 246, .int (iI x), .int (iI (k0 + 1)), .int (iI nb)] [] m' ∧ Kd H C n nb h (fun _ _ _ => True) (rdM m') ∧ belG nb m m' ∧ Rng m' := by
  have wb : wr nb = nb := wr_of (by omega) (by omega)
  have loop : ∀ (j : Nat) (b : Int) (m1 : zMm), b + j = nb → 0 ≤ b → Rng m1 → Kd H C n nb h (fun _ _ b' => b' < b) (rdM m1) → belG nb m m1 → ∃ m', Z e (d + 2) 282 86 [.ref 246, .int (iI x), .int (iI k0), .int (iI b)] [] m1 = Z e (d + 2) 282 31 [.ref 246, .int (iI x), .int (iI (k0 + 1)), .int (iI nb)] [] m' ∧ Kd H C n nb h (fun _ _ _ => True) (rdM m') ∧ belG nb m m' ∧ Rng m' := by
    intro j
    induction j with
    | zero =>
      intro b m1 hj b0 r1 k1 f1
      have e17 : m1 247 7 = nb := by rw [f1.2 7 (fun _ _ _ _ _ _ => by omega)]; exact e7
      have : b = nb := by omega
      subst this
      refine ⟨m1, ?_, k1.cg (fun _ _ b' _ _ _ _ _ hb' _ => ⟨fun _ => trivial, fun _ => hb'⟩), f1, r1⟩
      refine (b_282_86).trans ?_
      rw [e17, wb, itn (by omega)]
    | succ j ih =>
      intro b m1 hj b0 r1 k1 f1
      have e17 : m1 247 7 = nb := by rw [f1.2 7 (fun _ _ _ _ _ _ => by omega)]; exact e7
      obtain ⟨m2, a1, a2, a3, a4⟩ := tellOn_ok (e := e) (d := d) (m := m1) (m0 := m) (b := b) r1 hn hb.2 h0 h9 b0 (by omega) e0 e1 hC wC k1 f1
      obtain ⟨m', p1, p2⟩ := ih (b + 1) m2 (by omega) (by omega) a4 a2 a3
      refine ⟨m', ?_, p2⟩
      rw [← p1]
      refine (b_282_86).trans ?_
      rw [e17, wb, wr_of (x := b) (by omega) (by omega), itp (by omega), a1, rn_k, b_282_102]
  exact loop nb.toNat 0 m (by omega) (by decide) hr (by rw [← hH]; exact Kd.start.cg (fun _ _ b' _ _ _ _ hb' _ _ => ⟨fun y => y.elim, fun y => by omega⟩)) ⟨fun _ _ => rfl, fun _ _ => rfl⟩
end TM
