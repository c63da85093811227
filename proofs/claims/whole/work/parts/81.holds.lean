/-! Whether a cond holds: both sides. -/
section HO
variable {e : List Int32 × Value} {d : Nat} {m m0 : zMm} {N : Int → Int}
theorem wr_jdk {x : Int} : wr (jdiv x 1000) = jdiv x 1000 := by
  have h1 := wr_lo x
  have h2 := wr_hi x
  unfold jdiv
  rw [show wr 1000 = 1000 from rfl]
  by_cases h : 0 ≤ wr x
  · rw [Int.tdiv_eq_ediv_of_nonneg h]
    exact wr_of (by omega) (by omega)
  · have : (wr x).tdiv 1000 = -((-wr x) / 1000) := by
      rw [← Int.tdiv_eq_ediv_of_nonneg (by omega), Int.neg_tdiv, Int.neg_neg]
    rw [this]
    exact wr_of (by omega) (by omega)
theorem wr_jrk {x : Int} : wr (jrem x 1000) = jrem x 1000 := by
  have h1 := wr_lo x
  have h2 := wr_hi x
  unfold jrem
  rw [show wr 1000 = 1000 from rfl]
  by_cases h : 0 ≤ wr x
  · rw [Int.tmod_eq_emod_of_nonneg h]
    exact wr_of (by omega) (by omega)
  · have : (wr x).tmod 1000 = -((-wr x) % 1000) := by
      rw [← Int.tmod_eq_emod_of_nonneg (by omega), Int.neg_tmod, Int.neg_neg]
    rw [this]
    exact wr_of (by omega) (by omega)
theorem evC_step {a t g k : Int} {C : Int → Int} {i j x : Int} (h : i < j) : evC a t g k C i j x = evC a t g k C (i + 1) j (cst a t g k (C i) x) := by
  unfold evC
  rw [show (j - i).toNat = (j - (i + 1)).toNat + 1 by omega, itr]
theorem evC_end {a t g k : Int} {C : Int → Int} {i x : Int} : evC a t g k C i i x = x := by
  unfold evC
  rw [show (i - i).toNat = 0 by omega]
  rfl
theorem evR_none {f R : Int → Int} : ∀ (k : Nat) (i : Int), itr (fun q (o : Option ((Int → Int) × Int)) => o.bind (fun s => rst f (R q) s)) i k none = none
  | 0, _ => rfl
  | k + 1, i => by rw [itr]; exact evR_none k (i + 1)
theorem evR_step {f R : Int → Int} {i j : Int} {s r : (Int → Int) × Int} (h : i < j) (he : evR f R i j s = some r) : ∃ s1, rst f (R i) s = some s1 ∧ evR f R (i + 1) j s1 = some r := by
  unfold evR at *
  rw [show (j - i).toNat = (j - (i + 1)).toNat + 1 by omega, itr] at he
  have e1 : (some s).bind (fun s => rst f (R i) s) = rst f (R i) s := rfl
  rw [e1] at he
  cases hr : rst f (R i) s with
  | none => rw [hr, evR_none] at he; exact absurd he (by simp)
  | some s1 => rw [hr] at he; exact ⟨s1, rfl, he⟩
theorem evR_end {f R : Int → Int} {i : Int} {s : (Int → Int) × Int} : evR f R i i s = some s := by
  unfold evR
  rw [show (i - i).toNat = 0 by omega]
  rfl
/-- the class -/
theorem C_holds {v l a t g k : Int} {f : Int → Int} (hr : Rng m) (v0 : 0 ≤ v) (v1 : v < 12) (l0 : 0 ≤ l) (l1 : l < 10) (hl : lRow m N v l) (ha : f 0 = a) (ht : f 1 = t) (hg : f 2 = g) (hk : ∀ q, 3 ≤ q → q < 6 → (f q = 0 ∨ f q = 1) ∧ jand (jshr k (q - 3)) 1 = f q) (hf : ∀ q, -2147483648 ≤ f q ∧ f q < 2147483648) : Z e d 117 0 [.ref (18 + 6 * v.toNat), .int (iI l), .int (iI a), .int (iI t), .int (iI g), .int (iI k), .retAddr 0, .retAddr 0, .retAddr 0, .retAddr 0, .retAddr 0, .retAddr 0] [] m = ri (bi (hol N v l f)) m := by
  unfold lRow at hl
  obtain ⟨_, _, ⟨c0, c1⟩, ⟨n0, n1⟩, hc⟩ := hl
  have hV := zVer_0 (j := v) ⟨v0, v1⟩
  have wl : wr l = l := wr_of (by omega) (by omega)
  have wa : wr a = a := by rw [← ha]; exact wr_of (hf 0).1 (hf 0).2
  have wt : wr t = t := by rw [← ht]; exact wr_of (hf 1).1 (hf 1).2
  have wg : wr g = g := by rw [← hg]; exact wr_of (hf 2).1 (hf 2).2
  have w3 := hr (18 + 6 * v.toNat + 3) l
  have w4 := hr (18 + 6 * v.toNat + 4) l
  have loop : ∀ (j : Nat) (i x : Int) (u8 u9 u10 u11 : Value), i + j = m (18 + 6 * v.toNat + 4) l → 0 ≤ i → Z e d 117 30 [.ref (18 + 6 * v.toNat), .int (iI l), .int (iI a), .int (iI t), .int (iI g), .int (iI k), .int (iI x), .int (iI i), u8, u9, u10, u11] [] m = ri (if jand (evC a t g k (m (18 + 6 * v.toNat + 5)) i (m (18 + 6 * v.toNat + 4) l) x) 1 = 1 then 1 else 0) m := by
    intro j
    induction j with
    | zero =>
      intro i x u8 u9 u10 u11 hi i0
      have : i = m (18 + 6 * v.toNat + 4) l := by omega
      rw [← this, evC_end]
      refine (b_117_30 hV).trans ?_
      simp (disch := first | omega | (simp (disch := first | decide | omega) only [um_k, um_e, um_i, uz_k]; omega) | exact cat_i | exact cat_u | exact cat_r | assumption | exact rfl) only [wl, w4, b_117_217 hV, ← this, wr_of, ↓reduceIte, ck_T, lt_T, lt_F, le_T, le_F, eq_T, eq_F, and_true, true_and, and_false, false_and, or_true, true_or, or_false, false_or, and_self, or_self, not_true_eq_false, not_false_eq_true, implies_true, forall_const, true_implies, false_implies, ri_k, rn_k, rr_k, wr_bi, bi_e0, bi_e1, bi_T, bi_F, Classical.not_not, itp, itn, ck_t]
    | succ j ih =>
      intro i x u8 u9 u10 u11 hi i0
      rw [evC_step (by omega)]
      have wi : wr i = i := wr_of (by omega) (by omega)
      have e1 : ∀ u8 u9 u10 u11 : Value, Z e d 117 30 [.ref (18 + 6 * v.toNat), .int (iI l), .int (iI a), .int (iI t), .int (iI g), .int (iI k), .int (iI (cst a t g k (m (18 + 6 * v.toNat + 5) i) x)), .int (iI (i + 1)), u8, u9, u10, u11] [] m = _ := fun u8 u9 u10 u11 => ih (i + 1) (cst a t g k (m (18 + 6 * v.toNat + 5) i) x) u8 u9 u10 u11 (by omega) (by omega)
      refine (b_117_30 hV).trans ?_
      rw [wl, w4, wi, ck_t (by omega), itp (by omega), ck_t (by omega), ck_t (by omega)]
      generalize m (18 + 6 * v.toNat + 5) i = c at *
      rw [wr_jdk]
      unfold cst at e1 ⊢
      by_cases h6 : jdiv c 1000 = 6
      · rw [itp h6]
        rw [itp h6] at e1 ⊢
        exact e1 _ _ _ _
      · rw [itn h6]
        rw [itn h6] at e1 ⊢
        by_cases h7 : jdiv c 1000 = 7
        · rw [itp h7]
          rw [itp h7] at e1 ⊢
          exact e1 _ _ _ _
        · rw [itn h7]
          rw [itn h7] at e1 ⊢
          by_cases h8 : jdiv c 1000 = 8
          · rw [itp h8]
            rw [itp h8] at e1 ⊢
            exact e1 _ _ _ _
          · rw [itn h8]
            rw [itn h8] at e1 ⊢
            by_cases h3 : 3 ≤ jdiv c 1000
            · rw [itp h3]
              rw [itp h3] at e1 ⊢
              exact e1 _ _ _ _
            · rw [itn h3]
              rw [itn h3] at e1 ⊢
              have ew : wr (if jdiv c 1000 = 0 then a else if jdiv c 1000 = 1 then t else g) = if jdiv c 1000 = 0 then a else if jdiv c 1000 = 1 then t else g := by
                split
                · exact wa
                · split
                  · exact wt
                  · exact wg
              rw [wr_jrk, ew]
              exact e1 _ _ _ _
  have w0 : Z e d 117 0 [.ref (18 + 6 * v.toNat), .int (iI l), .int (iI a), .int (iI t), .int (iI g), .int (iI k), .retAddr 0, .retAddr 0, .retAddr 0, .retAddr 0, .retAddr 0, .retAddr 0] [] m = Z e d 117 30 [.ref (18 + 6 * v.toNat), .int (iI l), .int (iI a), .int (iI t), .int (iI g), .int (iI k), .int (iI (if ¬ m (18 + 6 * v.toNat + 3) l < m (18 + 6 * v.toNat + 4) l then 1 else 0)), .int (iI (m (18 + 6 * v.toNat + 3) l)), .retAddr 0, .retAddr 0, .retAddr 0, .retAddr 0] [] m := by
    rw [b_117_0 hV, wl, w3, w4, ck_t (by omega), ck_t (by omega), ck_t (by omega)]
  have cle : m (18 + 6 * v.toNat + 3) l ≤ m (18 + 6 * v.toNat + 4) l := by
    rcases hc with z | z <;> omega
  rw [w0, loop (m (18 + 6 * v.toNat + 4) l - m (18 + 6 * v.toNat + 3) l).toNat _ _ _ _ _ _ (by omega) c0]
  rcases hc with z | z
  · rw [z.1, itp (Int.lt_irrefl (m (18 + 6 * v.toNat + 4) l)), evC_end, bi_t (show hol N v l f from Or.inl z.2)]
    rfl
  · obtain ⟨b, b1, b2, b3⟩ := z.2.2 f k hk hf
    rw [ha, ht, hg] at b2
    obtain ⟨g', g1, g2, g3⟩ := b3 (fun _ => 0) 0 (by decide) (by decide)
    rw [itn (show ¬ ¬ m (18 + 6 * v.toNat + 3) l < m (18 + 6 * v.toNat + 4) l from fun y => y z.1), b2 0 (by decide) (by decide)]
    have hh : hol N v l f ↔ b = 1 := by
      unfold hol
      constructor
      · rintro (y | ⟨g4, y1, y2⟩)
        · omega
        · rw [g1] at y1
          have y3 := Option.some.inj y1
          have y4 : g' = g4 := congrArg Prod.fst y3
          rw [← y4, g2] at y2
          exact y2
      · intro y
        exact Or.inr ⟨g', g1, by rw [g2]; exact y⟩
    rw [bi_cg hh]
    rcases b1 with y | y <;> subst y
    · rw [bi_f (by decide)]; rfl
    · rw [bi_t rfl]; rfl
/-- the reference -/
theorem um_up {k : Nat} {i x : Int} : um m k i x k = up (m k) i x := by
  funext j
  unfold um up
  by_cases h : j = i
  · rw [if_pos ⟨rfl, h⟩, if_pos h]
  · rw [if_neg (fun q => h q.2), if_neg h]
theorem jand_01 {x y : Int} (hx : x = 0 ∨ x = 1) (hy : y = 0 ∨ y = 1) : jand x y = 0 ∨ jand x y = 1 := by
  rcases hx with z | z <;> rcases hy with w | w <;> subst z <;> subst w <;> decide
theorem jor_01 {x y : Int} (hx : x = 0 ∨ x = 1) (hy : y = 0 ∨ y = 1) : jor x y = 0 ∨ jor x y = 1 := by
  rcases hx with z | z <;> rcases hy with w | w <;> subst z <;> subst w <;> decide
theorem wr_01 {x : Int} (h : x = 0 ∨ x = 1) : wr x = x := wr_of (by omega) (by omega)
theorem M_hloop {v fi en : Int} {f : Int → Int} {u2 : Value} (hr0 : Rng m0) (v0 : 0 ≤ v) (v1 : v < 12) (e1 : en ≤ 120) (hk : ∀ q, 3 ≤ q → q < 6 → f q = 0 ∨ f q = 1) (hf : ∀ q, -2147483648 ≤ f q ∧ f q < 2147483648) : ∀ (j : Nat) (k h : Int) (m : zMm) (u7 : Value) (r : (Int → Int) × Int), k + j = en → 0 ≤ k → 0 ≤ h → RM m0 m → (∀ i, 0 ≤ i → i < 6 → m 258 i = f i) → (∀ q, 0 ≤ q → q < h → m 259 q = 0 ∨ m 259 q = 1) → evR f (cdR (m0 247) v) k en (m 259, h) = some r → ∃ m' u7', Z e (d + 1) 251 41 [.ref 246, .int (iI v), u2, .int (iI fi), .int (iI en), .int (iI h), .int (iI k), u7] [] m = Z e (d + 1) 251 230 [.ref 246, .int (iI v), u2, .int (iI fi), .int (iI en), .int (iI r.2), .int (iI en), u7'] [] m' ∧ RM m0 m' ∧ m' 258 = m 258 ∧ m' 259 = r.1 := by
  intro j
  induction j with
  | zero =>
    intro k h m u7 r hkj k0 h0 R hfa hp he
    have : k = en := by omega
    subst this
    rw [evR_end] at he
    have he := Option.some.inj he
    refine ⟨m, u7, ?_, R, rfl, by rw [← he]⟩
    rw [← he]
    refine (b_251_41).trans ?_
    simp (disch := first | omega | (simp (disch := first | decide | omega) only [um_k, um_e, um_i, uz_k]; omega) | exact cat_i | exact cat_u | exact cat_r | assumption | exact rfl) only [wr_of, ↓reduceIte, ck_T, lt_T, lt_F, le_T, le_F, eq_T, eq_F, and_true, true_and, and_false, false_and, or_true, true_or, or_false, false_or, and_self, or_self, not_true_eq_false, not_false_eq_true, implies_true, forall_const, true_implies, false_implies, ri_k, rn_k, rr_k, wr_bi, bi_e0, bi_e1, bi_T, bi_F, Classical.not_not, itp, itn, ck_t]
  | succ j ih =>
    intro k h m u7 r hkj k0 h0 R hfa hp he
    obtain ⟨s1, s2, s3⟩ := evR_step (by omega) he
    have ec : cdR (m0 247) v k = m0 247 (1297 + 120 * v + k) := if_pos ⟨k0, by omega⟩
    rw [ec] at s2
    have wc : wr (1297 + 120 * v + k) = 1297 + 120 * v + k := wr_of (by omega) (by omega)
    have wC := hr0 247 (1297 + 120 * v + k)
    have wk : wr k = k := wr_of (by omega) (by omega)
    have we : wr en = en := wr_of (by omega) (by omega)
    have start : Z e (d + 1) 251 41 [.ref 246, .int (iI v), u2, .int (iI fi), .int (iI en), .int (iI h), .int (iI k), u7] [] m = _ := b_251_41
    rw [wk, we, itp (by omega), wc, ck_t (by omega), R.n, wC] at start
    generalize m0 247 (1297 + 120 * v + k) = C at *
    unfold rst at s2
    dsimp only at s2
    by_cases c4 : C < 4000
    · rw [if_pos c4] at s2
      rw [itp c4] at start
      by_cases hq : (C < 3000 → 0 ≤ jdiv C 1000 ∧ jdiv C 1000 < 6) ∧ (¬ C < 3000 → C < 3003) ∧ 0 ≤ h ∧ h < 120
      · rw [if_pos hq] at s2
        obtain ⟨q1, q2, q3, q4⟩ := hq
        have s2 := Option.some.inj s2
        have wh : wr h = h := wr_of (by omega) (by omega)
        have w3 : ¬ C < 3000 → wr (3 + C - 3000) = 3 + C - 3000 := fun z => by have := q2 z; exact wr_of (by omega) (by omega)
        have hval : (if C < 3000 then (if wr (jrem C 1000) < wr (m 258 (wr (jdiv C 1000))) then (1 : Int) else 0) else m 258 (wr (3 + C - 3000))) = (if C < 3000 then (if jrem C 1000 < f (jdiv C 1000) then 1 else 0) else f (3 + C - 3000)) := by
          by_cases z : C < 3000
          · rw [if_pos z, if_pos z, wr_jrk, wr_jdk, hfa _ (q1 z).1 (q1 z).2, wr_of (hf _).1 (hf _).2]
          · rw [if_neg z, if_neg z, w3 z, hfa _ (by omega) (by have := q2 z; omega)]
        have hv01 : (if C < 3000 then (if jrem C 1000 < f (jdiv C 1000) then (1 : Int) else 0) else f (3 + C - 3000)) = 0 ∨ (if C < 3000 then (if jrem C 1000 < f (jdiv C 1000) then (1 : Int) else 0) else f (3 + C - 3000)) = 1 := by
          by_cases z : C < 3000
          · rw [if_pos z]
            split
            · exact Or.inr rfl
            · exact Or.inl rfl
          · rw [if_neg z]
            exact hk _ (by omega) (by have := q2 z; omega)
        rw [hval, ck_t ⟨fun z => by rw [wr_jdk]; exact q1 z, fun z => by rw [w3 z]; have := q2 z; omega⟩, wh, ck_t ⟨q3, q4⟩] at start
        generalize (if C < 3000 then (if jrem C 1000 < f (jdiv C 1000) then (1 : Int) else 0) else f (3 + C - 3000)) = X at *
        obtain ⟨m', u7', a1, a2, a3, a4⟩ := ih (k + 1) (h + 1) (um m 259 h X) (.int (iI C)) r (by omega) (by omega) (by omega) (R.um259 (wr_01 hv01)) (fun i i0 i1 => by rw [um_k (by decide)]; exact hfa i i0 i1) (fun q q0 q1 => by
          by_cases z : q = h
          · rw [z, um_s]; exact hv01
          · rw [um_i z]; exact hp q q0 (by omega)) (by rw [um_up, s2]; exact s3)
        exact ⟨m', u7', start.trans a1, a2, by rw [a3, um_r (by decide)], a4⟩
      · rw [if_neg hq] at s2
        exact absurd s2 (by simp)
    · rw [if_neg c4] at s2
      rw [itn c4] at start
      by_cases c5 : C = 4000
      · rw [if_pos c5] at s2
        rw [itp c5] at start
        by_cases hq : 1 ≤ h ∧ h ≤ 120
        · rw [if_pos hq] at s2
          have s2 := Option.some.inj s2
          have wh : wr (h - 1) = h - 1 := wr_of (by omega) (by omega)
          rw [wh, ck_t (by omega), ck_t (by omega)] at start
          have hv01 : 1 - m 259 (h - 1) = 0 ∨ 1 - m 259 (h - 1) = 1 := by
            have := hp (h - 1) (by omega) (by omega)
            omega
          obtain ⟨m', u7', a1, a2, a3, a4⟩ := ih (k + 1) h (um m 259 (h - 1) (1 - m 259 (h - 1))) (.int (iI C)) r (by omega) (by omega) (by omega) (R.um259 (wr_01 hv01)) (fun i i0 i1 => by rw [um_k (by decide)]; exact hfa i i0 i1) (fun q q0 q1 => by
            by_cases z : q = h - 1
            · rw [z, um_s]; exact hv01
            · rw [um_i z]; exact hp q q0 (by omega)) (by rw [um_up, s2]; exact s3)
          exact ⟨m', u7', start.trans a1, a2, by rw [a3, um_r (by decide)], a4⟩
        · rw [if_neg hq] at s2
          exact absurd s2 (by simp)
      · rw [if_neg c5] at s2
        rw [itn c5] at start
        by_cases hq : 2 ≤ h ∧ h ≤ 120
        · rw [if_pos hq] at s2
          have s2 := Option.some.inj s2
          have wh : wr (h + -1) = h - 1 := wr_of (by omega) (by omega)
          have wh2 : wr (h + -1 - 1) = h - 2 := by rw [wr_of (by omega) (by omega)]; omega
          rw [wh, wh2, ck_t ⟨fun _ => by omega, fun _ => by omega⟩, ck_t (by omega), show h + -1 = h - 1 by omega] at start
          have p1 := hp (h - 1) (by omega) (by omega)
          have p2 := hp (h - 2) (by omega) (by omega)
          have hv01 : (if C = 4001 then jand (m 259 (h - 2)) (m 259 (h - 1)) else jor (m 259 (h - 2)) (m 259 (h - 1))) = 0 ∨ (if C = 4001 then jand (m 259 (h - 2)) (m 259 (h - 1)) else jor (m 259 (h - 2)) (m 259 (h - 1))) = 1 := by
            split
            · exact jand_01 p2 p1
            · exact jor_01 p2 p1
          generalize (if C = 4001 then jand (m 259 (h - 2)) (m 259 (h - 1)) else jor (m 259 (h - 2)) (m 259 (h - 1))) = X at *
          obtain ⟨m', u7', a1, a2, a3, a4⟩ := ih (k + 1) (h - 1) (um m 259 (h - 2) X) (.int (iI C)) r (by omega) (by omega) (by omega) (R.um259 (wr_01 hv01)) (fun i i0 i1 => by rw [um_k (by decide)]; exact hfa i i0 i1) (fun q q0 q1 => by
            by_cases z : q = h - 2
            · rw [z, um_s]; exact hv01
            · rw [um_i z]; exact hp q q0 (by omega)) (by rw [um_up, s2]; exact s3)
          exact ⟨m', u7', start.trans a1, a2, by rw [a3, um_r (by decide)], a4⟩
        · rw [if_neg hq] at s2
          exact absurd s2 (by simp)
theorem M_holds {v l : Int} {f : Int → Int} (hr0 : Rng m0) (R : RM m0 m) (v0 : 0 ≤ v) (v1 : v < 12) (l0 : 0 ≤ l) (l1 : l < 10) {F : zMm} (hl : lRow F (m0 247) v l) (hfa : ∀ i, 0 ≤ i → i < 6 → m 258 i = f i) (hk : ∀ q, 3 ≤ q → q < 6 → f q = 0 ∨ f q = 1) (hf : ∀ q, -2147483648 ≤ f q ∧ f q < 2147483648) : ∃ m', Z e (d + 1) 251 0 [.ref 246, .int (iI v), .int (iI l), .retAddr 0, .retAddr 0, .retAddr 0, .retAddr 0, .retAddr 0] [] m = ri (bi (hol (m0 247) v l f)) m' ∧ RM m0 m' ∧ m' 258 = m 258 := by
  unfold lRow at hl
  obtain ⟨_, _, ⟨c0, c1⟩, ⟨n0, n1⟩, hc⟩ := hl
  have w2 : wr (266 + 44 * v + (4 + 4 * l + 2)) = 266 + 44 * v + (4 + 4 * l + 2) := wr_of (by omega) (by omega)
  have w3 : wr (266 + 44 * v + (4 + 4 * l + 3)) = 266 + 44 * v + (4 + 4 * l + 3) := wr_of (by omega) (by omega)
  have start : Z e (d + 1) 251 0 [.ref 246, .int (iI v), .int (iI l), .retAddr 0, .retAddr 0, .retAddr 0, .retAddr 0, .retAddr 0] [] m = _ := b_251_0
  rw [w2, w3, ck_t (by omega), ck_t (by omega), R.n] at start
  have x2 := hr0 247 (266 + 44 * v + (4 + 4 * l + 2))
  have x3 := hr0 247 (266 + 44 * v + (4 + 4 * l + 3))
  rcases hc with z | z
  · obtain ⟨m', u7', a1, a2, a3, a4⟩ := M_hloop (e := e) (d := d) (v := v) (fi := m0 247 (266 + 44 * v + (4 + 4 * l + 2))) (en := m0 247 (266 + 44 * v + (4 + 4 * l + 3))) (f := f) (u2 := .int (iI l)) hr0 v0 v1 n1 hk hf 0 (m0 247 (266 + 44 * v + (4 + 4 * l + 2))) 0 m (.retAddr 0) (m 259, 0) (by omega) n0 (by decide) R hfa (fun q q0 q1 => by omega) (by rw [z.2]; exact evR_end)
    refine ⟨m', ?_, a2, a3⟩
    rw [start, a1, b_251_230, x2, x3, bi_t (show hol (m0 247) v l f from Or.inl z.2), itp (Or.inl z.2)]
  · have hkk : ∃ K, ∀ q, 3 ≤ q → q < 6 → (f q = 0 ∨ f q = 1) ∧ jand (jshr K (q - 3)) 1 = f q := by
      refine ⟨jor (jor (f 3) (2 * f 4)) (4 * f 5), fun q q0 q1 => ⟨hk q q0 q1, ?_⟩⟩
      have h3 := hk 3 (by decide) (by decide)
      have h4 := hk 4 (by decide) (by decide)
      have h5 := hk 5 (by decide) (by decide)
      rw [mk_bits (P := f 3 = 1) (Q := f 4 = 1) (R := f 5 = 1) (by omega) (by omega) (by omega) (by omega) (by omega)]
      have hq : q = 3 ∨ q = 4 ∨ q = 5 := by omega
      have hbi : ∀ x : Int, (x = 0 ∨ x = 1) → bi (x = 1) = x := fun x hx => by
        rcases hx with y | y
        · rw [bi_f (by omega), y]
        · rw [bi_t y, y]
      rcases hq with y | y | y <;> subst y
      · rw [if_pos (by decide)]; exact hbi _ h3
      · rw [if_neg (by decide), if_pos (by decide)]; exact hbi _ h4
      · rw [if_neg (by decide), if_neg (by decide)]; exact hbi _ h5
    obtain ⟨K, hK⟩ := hkk
    obtain ⟨b, b1, b2, b3⟩ := z.2.2 f K hK hf
    obtain ⟨g', g1, g2, g3⟩ := b3 (m 259) 0 (by decide) (by decide)
    obtain ⟨g4, k1, k2, k3⟩ := b3 (fun _ => 0) 0 (by decide) (by decide)
    obtain ⟨m', u7', a1, a2, a3, a4⟩ := M_hloop (e := e) (d := d) (v := v) (fi := m0 247 (266 + 44 * v + (4 + 4 * l + 2))) (en := m0 247 (266 + 44 * v + (4 + 4 * l + 3))) (f := f) (u2 := .int (iI l)) hr0 v0 v1 n1 hk hf (m0 247 (266 + 44 * v + (4 + 4 * l + 3)) - m0 247 (266 + 44 * v + (4 + 4 * l + 2))).toNat (m0 247 (266 + 44 * v + (4 + 4 * l + 2))) 0 m (.retAddr 0) (g', 0 + 1) (by omega) n0 (by decide) R hfa (fun q q0 q1 => by omega) g1
    refine ⟨m', ?_, a2, a3⟩
    have hh : hol (m0 247) v l f ↔ b = 1 := by
      unfold hol
      constructor
      · rintro (y | ⟨g5, y1, y2⟩)
        · omega
        · rw [k1] at y1
          have y3 := Option.some.inj y1
          have y4 : g4 = g5 := congrArg Prod.fst y3
          rw [← y4, k2] at y2
          exact y2
      · intro y
        exact Or.inr ⟨g4, k1, by rw [k2]; exact y⟩
    have e0 : m' 259 0 = b := by rw [a4]; exact g2
    rw [start, a1, b_251_230, x2, x3, e0, wr_01 b1, bi_cg hh]
    rcases b1 with y | y <;> subst y
    · rw [bi_f (by decide), itn (fun q => by omega)]
    · rw [bi_t rfl, itp (Or.inr rfl)]
end HO
