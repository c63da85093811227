/-! Reading: a version is added. -/
section SR
variable {e : List Int32 × Value} {d : Nat} {m mE mm : zMm} {c n : Int}
theorem copy_ok {a : Nat} (zv : zVer a) (ha : 18 ≤ a) (hb : a < 90) (hr : Rng mE) : ∃ U, Z e d 111 0 [.ref a, .ref 185] [] mE = rn U ∧ Rng U ∧ (∀ k, ¬ (a ≤ k ∧ k ≤ a + 5) → U k = mE k) ∧ U a 3 = mE 185 3 ∧ (∀ i, 0 ≤ i → i < 10 → U (a + 1) i = mE 186 i ∧ U (a + 2) i = mE 187 i ∧ U (a + 3) i = mE 188 i ∧ U (a + 4) i = mE 189 i) ∧ (∀ i, 0 ≤ i → i < 100 → U (a + 5) i = mE 190 i) := by
  have st : Z e d 111 0 [.ref a, .ref 185] [] mE = _ := b_111_0 zv zVer_d
  rw [show wr 10 = 10 from rfl, show wr 0 = 0 from rfl, show wr 100 = 100 from rfl, ck_t (by decide), ck_t (by decide), ck_t (by decide), ck_t (by decide), ck_t (by decide)] at st
  have r1 : Rng (um (um (um (um (um mE a 0 (mE 185 0)) a 1 ((um mE a 0 (mE 185 0)) 185 1)) a 2 ((um (um mE a 0 (mE 185 0)) a 1 ((um mE a 0 (mE 185 0)) 185 1)) 185 2)) a 3 ((um (um (um mE a 0 (mE 185 0)) a 1 ((um mE a 0 (mE 185 0)) 185 1)) a 2 ((um (um mE a 0 (mE 185 0)) a 1 ((um mE a 0 (mE 185 0)) 185 1)) 185 2)) 185 3)) a 4 ((um (um (um (um mE a 0 (mE 185 0)) a 1 ((um mE a 0 (mE 185 0)) 185 1)) a 2 ((um (um mE a 0 (mE 185 0)) a 1 ((um mE a 0 (mE 185 0)) 185 1)) 185 2)) a 3 ((um (um (um mE a 0 (mE 185 0)) a 1 ((um mE a 0 (mE 185 0)) 185 1)) a 2 ((um (um mE a 0 (mE 185 0)) a 1 ((um mE a 0 (mE 185 0)) 185 1)) 185 2)) 185 3)) 185 4)) := by
    have h1 := hr.um (k := a) (i := 0) (hr 185 0)
    have h2 := h1.um (k := a) (i := 1) (h1 185 1)
    have h3 := h2.um (k := a) (i := 2) (h2 185 2)
    have h4 := h3.um (k := a) (i := 3) (h3 185 3)
    exact h4.um (k := a) (i := 4) (h4 185 4)
  have f1 : ∀ k, ¬ k = a → um (um (um (um (um mE a 0 (mE 185 0)) a 1 ((um mE a 0 (mE 185 0)) 185 1)) a 2 ((um (um mE a 0 (mE 185 0)) a 1 ((um mE a 0 (mE 185 0)) 185 1)) 185 2)) a 3 ((um (um (um mE a 0 (mE 185 0)) a 1 ((um mE a 0 (mE 185 0)) 185 1)) a 2 ((um (um mE a 0 (mE 185 0)) a 1 ((um mE a 0 (mE 185 0)) 185 1)) 185 2)) 185 3)) a 4 ((um (um (um (um mE a 0 (mE 185 0)) a 1 ((um mE a 0 (mE 185 0)) 185 1)) a 2 ((um (um mE a 0 (mE 185 0)) a 1 ((um mE a 0 (mE 185 0)) 185 1)) 185 2)) a 3 ((um (um (um mE a 0 (mE 185 0)) a 1 ((um mE a 0 (mE 185 0)) 185 1)) a 2 ((um (um mE a 0 (mE 185 0)) a 1 ((um mE a 0 (mE 185 0)) 185 1)) 185 2)) 185 3)) 185 4) k = mE k := fun k hk => by rw [um_r hk, um_r hk, um_r hk, um_r hk, um_r hk]
  have f2 : um (um (um (um (um mE a 0 (mE 185 0)) a 1 ((um mE a 0 (mE 185 0)) 185 1)) a 2 ((um (um mE a 0 (mE 185 0)) a 1 ((um mE a 0 (mE 185 0)) 185 1)) 185 2)) a 3 ((um (um (um mE a 0 (mE 185 0)) a 1 ((um mE a 0 (mE 185 0)) 185 1)) a 2 ((um (um mE a 0 (mE 185 0)) a 1 ((um mE a 0 (mE 185 0)) 185 1)) 185 2)) 185 3)) a 4 ((um (um (um (um mE a 0 (mE 185 0)) a 1 ((um mE a 0 (mE 185 0)) 185 1)) a 2 ((um (um mE a 0 (mE 185 0)) a 1 ((um mE a 0 (mE 185 0)) 185 1)) 185 2)) a 3 ((um (um (um mE a 0 (mE 185 0)) a 1 ((um mE a 0 (mE 185 0)) 185 1)) a 2 ((um (um mE a 0 (mE 185 0)) a 1 ((um mE a 0 (mE 185 0)) 185 1)) 185 2)) 185 3)) 185 4) a 3 = mE 185 3 := by rw [um_i (by decide), um_s, um_k (by omega), um_k (by omega), um_k (by omega)]
  generalize um (um (um (um (um mE a 0 (mE 185 0)) a 1 ((um mE a 0 (mE 185 0)) 185 1)) a 2 ((um (um mE a 0 (mE 185 0)) a 1 ((um mE a 0 (mE 185 0)) 185 1)) 185 2)) a 3 ((um (um (um mE a 0 (mE 185 0)) a 1 ((um mE a 0 (mE 185 0)) 185 1)) a 2 ((um (um mE a 0 (mE 185 0)) a 1 ((um mE a 0 (mE 185 0)) 185 1)) 185 2)) 185 3)) a 4 ((um (um (um (um mE a 0 (mE 185 0)) a 1 ((um mE a 0 (mE 185 0)) 185 1)) a 2 ((um (um mE a 0 (mE 185 0)) a 1 ((um mE a 0 (mE 185 0)) 185 1)) 185 2)) a 3 ((um (um (um mE a 0 (mE 185 0)) a 1 ((um mE a 0 (mE 185 0)) 185 1)) a 2 ((um (um mE a 0 (mE 185 0)) a 1 ((um mE a 0 (mE 185 0)) 185 1)) 185 2)) 185 3)) 185 4) = M at *
  refine ⟨_, st, r1.uc.uc.uc.uc.uc, fun k hk => ?_, ?_, fun i i0 i1 => ⟨?_, ?_, ?_, ?_⟩, fun i i0 i1 => ?_⟩
  · rw [uc_r (by omega), uc_r (by omega), uc_r (by omega), uc_r (by omega), uc_r (by omega)]; exact f1 k (by omega)
  · rw [uc_k (by omega), uc_k (by omega), uc_k (by omega), uc_k (by omega), uc_k (by omega)]; exact f2
  · rw [uc_k (by omega), uc_k (by omega), uc_k (by omega), uc_k (by omega), uc_in i0 i1, f1 _ (by omega)]
  · rw [uc_k (by omega), uc_k (by omega), uc_k (by omega), uc_in i0 i1, uc_k (by omega), f1 _ (by omega)]
  · rw [uc_k (by omega), uc_k (by omega), uc_in i0 i1, uc_k (by omega), uc_k (by omega), f1 _ (by omega)]
  · rw [uc_k (by omega), uc_in i0 i1, uc_k (by omega), uc_k (by omega), uc_k (by omega), f1 _ (by omega)]
  · rw [uc_in i0 i1, uc_k (by omega), uc_k (by omega), uc_k (by omega), uc_k (by omega), f1 _ (by omega)]
theorem enact2 {u3 u4 : Value} (hu3 : u3.category = 1) (hr : Rng mE) (h2 : mE 1 2 = n) (n0 : 0 ≤ n) (n1 : n < 12) (hc : wr c = c) : ∃ mP, Z e (d + 1) 136 37 [.ref 1, .int (iI c), .ref 185, u3, u4] [] mE = ri n mP ∧ Rng mP ∧ (∀ k, ¬ k = 1 → ¬ (18 + 6 * n.toNat ≤ k ∧ k ≤ 18 + 6 * n.toNat + 5) → mP k = mE k) ∧ (∀ i, ¬ i = 2 → mP 1 i = mE 1 i) ∧ mP 1 2 = n + 1 ∧ mP (18 + 6 * n.toNat) 0 = c ∧ mP (18 + 6 * n.toNat) 1 = mE 1 0 ∧ mP (18 + 6 * n.toNat) 2 = -3 ∧ mP (18 + 6 * n.toNat) 3 = mE 185 3 ∧ (∀ i, 0 ≤ i → i < 10 → mP (18 + 6 * n.toNat + 1) i = mE 186 i ∧ mP (18 + 6 * n.toNat + 2) i = mE 187 i ∧ mP (18 + 6 * n.toNat + 3) i = mE 188 i ∧ mP (18 + 6 * n.toNat + 4) i = mE 189 i) ∧ (∀ i, 0 ≤ i → i < 100 → mP (18 + 6 * n.toNat + 5) i = mE 190 i) := by
  have wn : wr n = n := wr_of (by omega) (by omega)
  have st : Z e (d + 1) 136 37 [.ref 1, .int (iI c), .ref 185, u3, u4] [] mE = _ := b_136_37 hu3
  have zv : zVer (18 + 6 * n.toNat) := zVer_0 ⟨n0, n1⟩
  have hb : 18 + 6 * n.toNat < 90 := by omega
  have ha : 18 ≤ 18 + 6 * n.toNat := by omega
  rw [h2, wn, ck_t ⟨n0, n1⟩] at st
  generalize 18 + 6 * n.toNat = a at *
  obtain ⟨U, a1, a2, a3, a4, a5, a6⟩ := copy_ok (e := e) (d := d) zv ha hb hr
  have u10 : um U a 0 c 1 0 = mE 1 0 := by rw [um_k (by omega), a3 1 (by omega)]
  have u12 : um (um (um U a 0 c) a 1 (mE 1 0)) a 2 (-3) 1 2 = n := by rw [um_k (by omega), um_k (by omega), um_k (by omega), a3 1 (by omega)]; exact h2
  rw [a1, rn_k, b_136_54 zv, u10, u12, um_s, show n + 1 - 1 = n by omega] at st
  refine ⟨_, st, (((a2.um hc).um (hr 1 0)).um rfl).um (wr_of (by omega) (by omega)), fun k k1 k2 => ?_, fun i hi => ?_, um_s, ?_, ?_, ?_, ?_, fun i i0 i1 => ?_, fun i i0 i1 => ?_⟩
  · rw [um_r k1, um_r (by omega), um_r (by omega), um_r (by omega)]; exact a3 k k2
  · rw [um_i hi, um_k (by omega), um_k (by omega), um_k (by omega), a3 1 (by omega)]
  · rw [um_k (by omega), um_i (by decide), um_i (by decide), um_s]
  · rw [um_k (by omega), um_i (by decide), um_s]
  · rw [um_k (by omega), um_s]
  · rw [um_k (by omega), um_i (by decide), um_i (by decide), um_i (by decide)]; exact a4
  · rw [um_k (by omega), um_k (by omega), um_k (by omega), um_k (by omega), um_k (by omega), um_k (by omega), um_k (by omega), um_k (by omega), um_k (by omega), um_k (by omega), um_k (by omega), um_k (by omega), um_k (by omega), um_k (by omega), um_k (by omega), um_k (by omega)]
    exact a5 i i0 i1
  · rw [um_k (by omega), um_k (by omega), um_k (by omega), um_k (by omega)]
    exact a6 i i0 i1
theorem M_add {x c' l : Int} {u2 u3 u4 u6 : Value} (hr : Rng mm) (h3 : mm 247 3 = n) (n0 : 0 ≤ n) (n1 : n < 12) (hc : wr c = c) (h20 : mm 246 20 = c') (c0 : 0 ≤ c') (c1 : c' ≤ 120) (h21 : mm 246 21 = l) : ∃ mF, Z e (d + 1) 242 74 [.ref 246, .int (iI c), u2, u3, u4, .int (iI n), u6] [.int (iI x)] mm = ri n mF ∧ Rng mF ∧ (∀ k, ¬ k = 247 → mF k = mm k) ∧ (∀ i, ¬ i = 3 → ¬ (266 + 44 * n ≤ i ∧ i < 266 + 44 * n + 44) → ¬ (1297 + 120 * n ≤ i ∧ i < 1297 + 120 * n + 120) → mF 247 i = mm 247 i) ∧ mF 247 3 = n + 1 ∧ mF 247 (266 + 44 * n + 0) = c ∧ mF 247 (266 + 44 * n + 1) = mm 247 0 ∧ mF 247 (266 + 44 * n + 2) = -3 ∧ mF 247 (266 + 44 * n + 3) = l ∧ (∀ j, 0 ≤ j → j < 40 → mF 247 (266 + 44 * n + (4 + j)) = mm 255 j) ∧ (∀ j, 0 ≤ j → j < c' → mF 247 (1297 + 120 * n + j) = mm 256 j) := by
  have st : Z e (d + 1) 242 74 [.ref 246, .int (iI c), u2, u3, u4, .int (iI n), u6] [.int (iI x)] mm = _ := b_242_74
  rw [wr_of (x := 266 + 44 * n + 0) (by omega) (by omega), wr_of (x := 266 + 44 * n + 1) (by omega) (by omega), wr_of (x := 266 + 44 * n + 2) (by omega) (by omega), wr_of (x := 266 + 44 * n + 3) (by omega) (by omega), ck_t (by omega), ck_t (by omega), ck_t (by omega), ck_t (by omega), um_i (i' := 0) (by omega), um_k (k' := 246) (by decide), um_k (k' := 246) (by decide), um_k (k' := 246) (by decide), h21] at st
  have wl : wr l = l := by rw [← h21]; exact hr 246 21
  have r1 : Rng (um (um (um (um mm 247 (266 + 44 * n + 0) c) 247 (266 + 44 * n + 1) (mm 247 0)) 247 (266 + 44 * n + 2) (-3)) 247 (266 + 44 * n + 3) l) := (((hr.um hc).um (hr 247 0)).um rfl).um wl
  have f1 : ∀ k, ¬ k = 247 → um (um (um (um mm 247 (266 + 44 * n + 0) c) 247 (266 + 44 * n + 1) (mm 247 0)) 247 (266 + 44 * n + 2) (-3)) 247 (266 + 44 * n + 3) l k = mm k := fun k hk => by rw [um_r hk, um_r hk, um_r hk, um_r hk]
  have f2 : ∀ i, ¬ (266 + 44 * n ≤ i ∧ i < 266 + 44 * n + 4) → um (um (um (um mm 247 (266 + 44 * n + 0) c) 247 (266 + 44 * n + 1) (mm 247 0)) 247 (266 + 44 * n + 2) (-3)) 247 (266 + 44 * n + 3) l 247 i = mm 247 i := fun i hi => by rw [um_i (by omega), um_i (by omega), um_i (by omega), um_i (by omega)]
  have g0 : um (um (um (um mm 247 (266 + 44 * n + 0) c) 247 (266 + 44 * n + 1) (mm 247 0)) 247 (266 + 44 * n + 2) (-3)) 247 (266 + 44 * n + 3) l 247 (266 + 44 * n + 0) = c := by rw [um_i (by omega), um_i (by omega), um_i (by omega), um_s]
  have g1 : um (um (um (um mm 247 (266 + 44 * n + 0) c) 247 (266 + 44 * n + 1) (mm 247 0)) 247 (266 + 44 * n + 2) (-3)) 247 (266 + 44 * n + 3) l 247 (266 + 44 * n + 1) = mm 247 0 := by rw [um_i (by omega), um_i (by omega), um_s]
  have g2 : um (um (um (um mm 247 (266 + 44 * n + 0) c) 247 (266 + 44 * n + 1) (mm 247 0)) 247 (266 + 44 * n + 2) (-3)) 247 (266 + 44 * n + 3) l 247 (266 + 44 * n + 2) = -3 := by rw [um_i (by omega), um_s]
  have g3 : um (um (um (um mm 247 (266 + 44 * n + 0) c) 247 (266 + 44 * n + 1) (mm 247 0)) 247 (266 + 44 * n + 2) (-3)) 247 (266 + 44 * n + 3) l 247 (266 + 44 * n + 3) = l := um_s
  generalize um (um (um (um mm 247 (266 + 44 * n + 0) c) 247 (266 + 44 * n + 1) (mm 247 0)) 247 (266 + 44 * n + 2) (-3)) 247 (266 + 44 * n + 3) l = m1 at *
  obtain ⟨m2, a1, a2⟩ := lpM (m := m1) (c := 247) (ix := fun p => 266 + 44 * n + (4 + p)) (g := fun p => mm 255 p) (n := 40) (F := fun i y => Z e (d + 1) 242 135 [.ref 246, .int (iI c), u2, u3, u4, .int (iI n), .int (iI i)] [] y) (by decide) (fun p q _ h _ => by show ¬ 266 + 44 * n + (4 + p) = 266 + 44 * n + (4 + q); omega) (fun i m' i0 i1 F => by
    show Z e (d + 1) 242 135 [.ref 246, .int (iI c), u2, u3, u4, .int (iI n), .int (iI i)] [] m' = Z e (d + 1) 242 135 [.ref 246, .int (iI c), u2, u3, u4, .int (iI n), .int (iI (i + 1))] [] (um m' 247 (266 + 44 * n + (4 + i)) (mm 255 i))
    refine (b_242_135).trans ?_
    rw [wr_of (x := i) (by omega) (by omega), itp i1, ck_t ⟨i0, i1⟩, wr_of (x := 266 + 44 * n + (4 + i)) (by omega) (by omega), ck_t (by omega), F.1 255 (by decide), f1 255 (by decide)])
  have r2 : Rng m2 := a2.rng r1 (fun p _ _ => hr 255 p)
  have k20 : m2 246 20 = c' := by rw [a2.1 246 (by decide), f1 246 (by decide)]; exact h20
  have o2 : ∀ i, ¬ (266 + 44 * n + 4 ≤ i ∧ i < 266 + 44 * n + 44) → m2 247 i = m1 247 i := fun i hi => a2.2.2 i (fun p p0 p1 => by show ¬ i = 266 + 44 * n + (4 + p); omega)
  obtain ⟨m3, b1, b2⟩ := lpM (m := m2) (c := 247) (ix := fun p => 1297 + 120 * n + p) (g := fun p => mm 256 p) (n := c') (F := fun i y => Z e (d + 1) 242 172 [.ref 246, .int (iI c), u2, u3, u4, .int (iI n), .int (iI i)] [] y) c0 (fun p q _ h _ => by show ¬ 1297 + 120 * n + p = 1297 + 120 * n + q; omega) (fun i m' i0 i1 F => by
    show Z e (d + 1) 242 172 [.ref 246, .int (iI c), u2, u3, u4, .int (iI n), .int (iI i)] [] m' = Z e (d + 1) 242 172 [.ref 246, .int (iI c), u2, u3, u4, .int (iI n), .int (iI (i + 1))] [] (um m' 247 (1297 + 120 * n + i) (mm 256 i))
    refine (b_242_172).trans ?_
    rw [wr_of (x := i) (by omega) (by omega), F.1 246 (by decide), k20, wr_of (x := c') (by omega) (by omega), itp i1, ck_t (by omega), wr_of (x := 1297 + 120 * n + i) (by omega) (by omega), ck_t (by omega), F.1 256 (by decide), a2.1 256 (by decide), f1 256 (by decide)])
  have r3 : Rng m3 := b2.rng r2 (fun p _ _ => hr 256 p)
  have o3 : ∀ i, ¬ (1297 + 120 * n ≤ i ∧ i < 1297 + 120 * n + c') → m3 247 i = m2 247 i := fun i hi => b2.2.2 i (fun p p0 p1 => by show ¬ i = 1297 + 120 * n + p; omega)
  have e135 : Z e (d + 1) 242 135 [.ref 246, .int (iI c), u2, u3, u4, .int (iI n), .int (iI 40)] [] m2 = Z e (d + 1) 242 172 [.ref 246, .int (iI c), u2, u3, u4, .int (iI n), .int (iI 0)] [] m2 := by
    refine (b_242_135).trans ?_
    rw [show wr 40 = 40 from rfl, itn (by decide)]
  have h33 : m3 247 3 = n := by rw [o3 3 (by omega), o2 3 (by omega), f2 3 (by omega)]; exact h3
  have e172 : Z e (d + 1) 242 172 [.ref 246, .int (iI c), u2, u3, u4, .int (iI n), .int (iI c')] [] m3 = ri n (um m3 247 3 (n + 1)) := by
    refine (b_242_172).trans ?_
    rw [b2.1 246 (by decide), k20, itn (by omega), h33]
  refine ⟨um m3 247 3 (n + 1), st.trans (a1.trans (e135.trans (b1.trans e172))), r3.um (wr_of (by omega) (by omega)), fun k hk => ?_, fun i i3 i4 i5 => ?_, um_s, ?_, ?_, ?_, ?_, fun j j0 j1 => ?_, fun j j0 j1 => ?_⟩
  · rw [um_r hk, b2.1 k hk, a2.1 k hk]; exact f1 k hk
  · rw [um_i i3, o3 i (by omega), o2 i (by omega), f2 i (by omega)]
  · rw [um_i (by omega), o3 _ (by omega), o2 _ (by omega)]; exact g0
  · rw [um_i (by omega), o3 _ (by omega), o2 _ (by omega)]; exact g1
  · rw [um_i (by omega), o3 _ (by omega), o2 _ (by omega)]; exact g2
  · rw [um_i (by omega), o3 _ (by omega), o2 _ (by omega)]; exact g3
  · rw [um_i (by omega), o3 _ (by omega)]; exact a2.2.1 j j0 j1
  · rw [um_i (by omega)]; exact b2.2.1 j j0 j1
end SR
