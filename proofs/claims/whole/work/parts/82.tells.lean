/-! The line that tells: the class. -/
theorem fold_cases {A : List Int} {P : Int → Prop} {val : Int → Int} : ((∀ c, c ∈ A → ¬ P c) ∧ ∀ x, A.foldl (fun y c => cif (P c) (val c) y) x = x) ∨ (∃ c, c ∈ A ∧ P c ∧ ∀ x, A.foldl (fun y c => cif (P c) (val c) y) x = val c) := by
  induction A with
  | nil => exact Or.inl ⟨fun c hc => absurd hc List.not_mem_nil, fun _ => rfl⟩
  | cons a A ih =>
    rcases ih with ⟨h1, h2⟩ | ⟨c, h1, h2, h3⟩
    · by_cases ha : P a
      · exact Or.inr ⟨a, List.mem_cons_self, ha, fun x => by rw [List.foldl_cons, cif_t ha]; exact h2 _⟩
      · refine Or.inl ⟨fun c hc => ?_, fun x => by rw [List.foldl_cons, cif_f ha]; exact h2 _⟩
        rcases List.mem_cons.mp hc with z | z
        · rw [z]; exact ha
        · exact h1 c z
    · exact Or.inr ⟨c, List.mem_cons_of_mem _ h1, h2, fun x => by rw [List.foldl_cons]; exact h3 _⟩
theorem getD_mem {A : List Int} {k : Nat} (h : k < A.length) : A.getD k 0 ∈ A := by
  rw [List.getD_eq_getElem?_getD, List.getElem?_eq_getElem h]
  exact List.getElem_mem h
theorem lpDown {β γ : Type} {A : List Int} {P : Int → Prop} {val : Int → Int} {G : Int → β} {F : Int → γ → β} (x : Int) (h0 : ∀ u, F (-1) u = G x) (hs : ∀ (k : Nat) u, k < A.length → (P (A.getD k 0) → F k u = G (val (A.getD k 0))) ∧ (¬ P (A.getD k 0) → ∃ u', F k u = F ((k : Int) - 1) u')) (u : γ) : F ((A.length : Int) - 1) u = G (A.foldl (fun y c => cif (P c) (val c) y) x) := by
  have : ∀ (k : Nat) (u : γ), k ≤ A.length → F ((k : Int) - 1) u = G ((A.take k).foldl (fun y c => cif (P c) (val c) y) x) := by
    intro k
    induction k with
    | zero => intro u _; exact h0 u
    | succ k ih =>
      intro u hk
      have hq := hs k u (by omega)
      have e1 : A.take (k + 1) = A.take k ++ [A.getD k 0] := by
        rw [List.take_succ, List.getElem?_eq_getElem (by omega), List.getD_eq_getElem?_getD, List.getElem?_eq_getElem (by omega)]
        rfl
      rw [e1, List.foldl_append, List.foldl_cons, List.foldl_nil, show ((k + 1 : Nat) : Int) - 1 = (k : Int) by omega]
      by_cases hp : P (A.getD k 0)
      · rw [cif_t hp]; exact hq.1 hp
      · rw [cif_f hp]
        obtain ⟨u', h⟩ := hq.2 hp
        rw [h]
        exact ih u' (by omega)
  have h := this A.length u (Nat.le_refl _)
  rw [List.take_length] at h
  exact h
section TL
variable {e : List Int32 × Value} {d : Nat} {m : zMm} {N : Int → Int}
/-- what the class works with -/
def GatM (N : Int → Int) (o h mi : Int) (m : zMm) : Prop := m 202 5 = (lnL N o h).length ∧ (∀ i : Nat, i < (lnL N o h).length → m 203 i = (lnL N o h).getD i 0) ∧ m 202 6 = mi ∧ m 202 7 = strt N o h ∧ m 202 8 = fort N o h
def LXm (o h mi : Int) (m : zMm) : Prop := Core m (m 247) ∧ Rng m ∧ LW (m 247) o m ∧ GatM (m 247) o h mi m
def LX (o h : Int) (m : zMm) : Prop := LXm o h (mile (m 247) o h) m
theorem lRow_of {F : zMm} (iV : cVer F N) {v l : Int} (h0 : 0 ≤ v) (h1 : v < N 3) (h2 : 0 ≤ l) (h3 : l < N (266 + 44 * v + 3)) : lRow F N v l := by
  have q := iV.1 v h0 h1
  unfold vRow at q
  exact q.2.2.2.2 l h2 h3
theorem lnO_cases (hB : vB N) {o q g h : Int} : ((∀ c, c ∈ lnL N o h → ¬ tells N o q g h (c / 100) (c % 100)) ∧ lnO N o q g h = -1 ∧ ∀ x, (lnL N o h).foldl (fun y c => cif (tells N o q g h (c / 100) (c % 100)) c y) x = x) ∨ (isLn N (lnO N o q g h) ∧ tells N o q g h (lnO N o q g h / 100) (lnO N o q g h % 100) ∧ ∀ x, (lnL N o h).foldl (fun y c => cif (tells N o q g h (c / 100) (c % 100)) c y) x = lnO N o q g h) := by
  have e1 : lnO N o q g h = (lnL N o h).foldl (fun y c => cif (tells N o q g h (c / 100) (c % 100)) c y) (-1) := by
    unfold lnO
    rw [lnF_L hB]
    refine congrArg (fun f => List.foldl f (-1) (lnL N o h)) ?_
    funext y c
    rw [show 100 * (c / 100) + c % 100 = c by omega]
  rcases fold_cases (A := lnL N o h) (P := fun c => tells N o q g h (c / 100) (c % 100)) (val := fun c => c) with ⟨h1, h2⟩ | ⟨c, h1, h2, h3⟩
  · exact Or.inl ⟨h1, by rw [e1]; exact h2 _, h2⟩
  · have e2 : lnO N o q g h = c := by rw [e1]; exact h3 _
    rw [e2]
    exact Or.inr ⟨lnL_all hB c h1, h2, h3⟩
theorem L_holdsOn {o h c q g : Int} {mi : Int} (X : LXm o h mi m) (hc : isLn (m 247) c) (q0 : 0 ≤ q) (q1 : q < m 247 4) (hg : 0 ≤ g ∧ g ≤ 12) (hh : 0 ≤ h ∧ h ≤ 9999) : Z e (d + 1) 26 0 [.ref 202, .int (iI c), .int (iI q), .int (iI g), .int (iI h), .retAddr 0] [] m = ri (bi (hol (m 247) (c / 100) (c % 100) (fct (m 247) o q g h))) m := by
  obtain ⟨⟨iN, iG, iP, iH, iS, iD, iT, iO, iU, iR, iV⟩, hr, lw, ga⟩ := X
  have bN := iN
  unfold cNum at bN
  obtain ⟨k0, k1, k2, k3⟩ := hc
  have dq := iD q q0 q1
  unfold dRow at dq
  obtain ⟨df, d0, d1, d2, d3, d4, d5⟩ := dq
  have l1 := lw.2 q q0 q1
  have e3 := df 3 (by decide) (by decide)
  have jd : jdiv c 100 = c / 100 := jdiv_n k0 (by omega) (by decide) (by decide)
  have jr : jrem c 100 = c % 100 := jrem_n k0 (by omega) (by decide) (by decide)
  have wd : wr (c / 100) = c / 100 := wr_of (by omega) (by omega)
  have wq : wr q = q := wr_of (by omega) (by omega)
  have fb := fct_b (sB_of iN iS) (by omega : m 247 4 ≤ 24) (o := o) (q := q) (g := g) (h := h) hg hh (by omega)
  have ho := C_holds (e := e) (d := d) (v := c / 100) (l := c % 100) (a := h - m 247 (794 + 6 * q + 3)) (t := timS (m 247) q) (g := g) (k := m 205 q) (f := fct (m 247) o q g h) hr (by omega) (by omega) (by omega) k2 (lRow_of iV (by omega) k1 (by omega) k3) rfl rfl rfl (fun i i0 i1 => by
    have ef : fct (m 247) o q g h i = mrk (m 247) o q (i - 3) := by
      unfold fct
      rw [if_neg (by omega), if_neg (by omega), if_neg (by omega), if_pos (by omega)]
    rw [ef]
    refine ⟨?_, l1.2 (i - 3) (by omega) (by omega)⟩
    unfold mrk
    split
    · exact bi_01
    · split <;> exact bi_01) (fun i => by have := fb i; omega)
  have t3 := get_8 (e := e) (d := d) (m := m) (i := q) (j := 3) (by omega) (by omega) q0 (by omega) (by decide) (by decide)
  rw [e3] at t3
  rw [b_26_0, wq, itn (by omega), t3, ri_k, b_26_26 cat_i, jd, jr, wd, wq, ck_t (by omega), ck_t (by omega), ck_t (by omega), l1.1, ho, ri_k, b_26_63, ck_t nbp_bi]
theorem tl_step {q g h kd k c L Nn : Int} {u6 u7 u8 : Value} (k0 : 0 ≤ k) (k1 : k < 30) (ek : m 203 k = c) (c0 : 0 ≤ c) (c1 : c / 100 < 12) (c2 : c % 100 < 10) (w1 : wr (m (18 + 6 * (c / 100).toNat + 1) (c % 100)) = L) (a2 : m (18 + 6 * (c / 100).toNat + 2) (c % 100) = Nn) : Z e (d + 1) 27 22 [.ref 202, .int (iI q), .int (iI g), .int (iI h), .int (iI kd), .int (iI k), u6, u7, u8] [] m = if 5 ≤ L ∧ ¬ jand Nn (jor (jshl 1 kd) 64) = 0 then (Z e d 26 0 [.ref 202, .int (iI c), .int (iI q), .int (iI g), .int (iI h), .retAddr 0] [] m).bind (ZK e (d + 1) 27 109 [.ref 202, .int (iI q), .int (iI g), .int (iI h), .int (iI kd), .int (iI k), .ref (18 + 6 * (c / 100).toNat), .int (iI (c % 100)), .int (iI (if 5 ≤ L ∧ ¬ jand Nn (jor (jshl 1 kd) 64) = 0 then 1 else 0))] [] m) else Z e (d + 1) 27 22 [.ref 202, .int (iI q), .int (iI g), .int (iI h), .int (iI kd), .int (iI (k + -1)), .ref (18 + 6 * (c / 100).toNat), .int (iI (c % 100)), .int (iI (if 5 ≤ L ∧ ¬ jand Nn (jor (jshl 1 kd) 64) = 0 then 1 else 0))] [] m := by
  have q1 : 0 ≤ c / 100 ∧ c / 100 < 12 := by omega
  have q2 : 0 ≤ c % 100 ∧ c % 100 < 10 := by omega
  have jd : jdiv c 100 = c / 100 := jdiv_n c0 (by omega) (by decide) (by decide)
  have jr : jrem c 100 = c % 100 := jrem_n c0 (by omega) (by decide) (by decide)
  have wd : wr (c / 100) = c / 100 := wr_of (by omega) (by omega)
  have wm : wr (c % 100) = c % 100 := wr_of (by omega) (by omega)
  have wk : wr k = k := wr_of (by omega) (by omega)
  refine (b_27_22).trans ?_
  rw [wk, itp k0, ck_t ⟨k0, k1⟩, ek, jd, jr, wd, wm, ck_t q1, ck_t ⟨k0, k1⟩, ck_t q2, w1, a2, ck_t (fun _ => q2), ck_t ⟨k0, k1⟩]
theorem L_tells {o h q g : Int} {mi : Int} (X : LXm o h mi m) (q0 : 0 ≤ q) (q1 : q < m 247 4) (hg : 0 ≤ g ∧ g ≤ 12) (hh : 0 ≤ h ∧ h ≤ 9999) : Z e (d + 2) 27 0 [.ref 202, .int (iI q), .int (iI g), .int (iI h), .retAddr 0, .retAddr 0, .retAddr 0, .retAddr 0, .retAddr 0] [] m = ri (if lnO (m 247) o q g h < 0 then -3 else lnO (m 247) o q g h) m := by
  have X0 := X
  obtain ⟨⟨iN, iG, iP, iH, iS, iD, iT, iO, iU, iR, iV⟩, hr, lw, ga⟩ := X
  have bN := iN
  unfold cNum at bN
  have hB := vB_of iN iV
  have dq := iD q q0 q1
  unfold dRow at dq
  obtain ⟨df, d0, d1, d2, d3, d4, d5⟩ := dq
  obtain ⟨G1, G2, G3, G4, G5⟩ := ga
  have hlen : (lnL (m 247) o h).length ≤ 30 := by
    have : (lnF (m 247) o h (fun v l (y : List Int) => y ++ [100 * v + l]) []).length ≤ 30 := by
      have step : ∀ (c : Int) (y : List Int) (n : Nat), y.length ≤ n → (lnV (m 247) (fun v l (y : List Int) => y ++ [100 * v + l]) (vOf (m 247) o c h) y).length ≤ n + 10 := by
        intro c y n hy
        unfold lnV
        by_cases hv : 0 ≤ vOf (m 247) o c h
        · rw [cif_t hv]
          have hb := hB.2.2 _ hv (vOf_lt hB.1 hv)
          have : ∀ (k : Nat) (j : Int) (z : List Int), (itr (fun l (y : List Int) => y ++ [100 * vOf (m 247) o c h + l]) j k z).length = z.length + k := by
            intro k
            induction k with
            | zero => intro j z; rfl
            | succ k ih => intro j z; rw [itr, ih]; simp; omega
          rw [this]
          omega
        · rw [cif_f hv]; omega
      unfold lnF
      rw [show (3 : Nat) = 2 + 1 from rfl, itr, itr, itr, itr]
      exact step _ _ 20 (step _ _ 10 (step _ _ 0 (Nat.le_refl 0)))
    exact this
  have start : Z e (d + 2) 27 0 [.ref 202, .int (iI q), .int (iI g), .int (iI h), .retAddr 0, .retAddr 0, .retAddr 0, .retAddr 0, .retAddr 0] [] m = Z e (d + 2) 27 22 [.ref 202, .int (iI q), .int (iI g), .int (iI h), .int (iI (m 247 (794 + 6 * q + 1))), .int (iI (((lnL (m 247) o h).length : Int) - 1)), .retAddr 0, .retAddr 0, .retAddr 0] [] m := by
    have t1 := get_8 (e := e) (d := d + 1) (m := m) (i := q) (j := 1) (by omega) (by omega) q0 (by omega) (by decide) (by decide)
    rw [df 1 (by decide) (by decide)] at t1
    rw [b_27_0, t1, ri_k, b_27_12, G1]
  have key := lpDown (A := lnL (m 247) o h) (P := fun c => tells (m 247) o q g h (c / 100) (c % 100)) (val := fun c => c) (G := fun y => ri y m) (F := fun i (u : Value × Value × Value) => Z e (d + 2) 27 22 [.ref 202, .int (iI q), .int (iI g), .int (iI h), .int (iI (m 247 (794 + 6 * q + 1))), .int (iI i), u.1, u.2.1, u.2.2] [] m) (-3)
    (by
      intro u
      refine (b_27_22).trans ?_
      simp (disch := first | omega | (simp (disch := first | decide | omega) only [um_k, um_e, um_i, uz_k]; omega) | exact cat_i | exact cat_u | exact cat_r | assumption | exact rfl) only [wr_of, ↓reduceIte, ck_T, lt_T, lt_F, le_T, le_F, eq_T, eq_F, and_true, true_and, and_false, false_and, or_true, true_or, or_false, false_or, and_self, or_self, not_true_eq_false, not_false_eq_true, implies_true, forall_const, true_implies, false_implies, ri_k, rn_k, rr_k, wr_bi, bi_e0, bi_e1, bi_T, bi_F, Classical.not_not, itp, itn, ck_t])
    (by
      intro k u hk
      have hc := lnL_all hB _ (getD_mem hk)
      have ek : m 203 (k : Int) = (lnL (m 247) o h).getD k 0 := G2 k hk
      generalize (lnL (m 247) o h).getD k 0 = c at *
      have hc0 := hc
      obtain ⟨k0, k1, k2, k3⟩ := hc
      have k30 : (k : Int) < 30 := by omega
      have wk : wr (k : Int) = k := wr_of (by omega) (by omega)
      have q12 : c / 100 < 12 := by have := hB.2.1; omega
      have lr := lRow_of iV (v := c / 100) (l := c % 100) (by omega) k1 (by omega) k3
      unfold lRow at lr
      have a1 : wr (m (18 + 6 * (c / 100).toNat + 1) (c % 100)) = lk (m 247) (c / 100) (c % 100) := by rw [hr]; exact lr.1.1
      have a2 : m (18 + 6 * (c / 100).toNat + 2) (c % 100) = ln (m 247) (c / 100) (c % 100) := lr.2.1.1
      have ho := L_holdsOn (e := e) (d := d) X0 hc0 q0 q1 hg hh
      have st : ∀ u6 u7 u8 : Value, Z e (d + 1 + 1) 27 22 [.ref 202, .int (iI q), .int (iI g), .int (iI h), .int (iI (m 247 (794 + 6 * q + 1))), .int (iI (k : Int)), u6, u7, u8] [] m = _ := fun u6 u7 u8 => tl_step (e := e) (d := d + 1) (m := m) (q := q) (g := g) (h := h) (kd := m 247 (794 + 6 * q + 1)) (u6 := u6) (u7 := u7) (u8 := u8) (Int.natCast_nonneg k) k30 ek k0 q12 k2 a1 a2
      by_cases ab : 5 ≤ lk (m 247) (c / 100) (c % 100) ∧ ¬ jand (ln (m 247) (c / 100) (c % 100)) (jor (jshl 1 (m 247 (794 + 6 * q + 1))) 64) = 0
      · by_cases hl : hol (m 247) (c / 100) (c % 100) (fct (m 247) o q g h)
        · refine ⟨fun _ => ?_, fun z => absurd (show tells (m 247) o q g h (c / 100) (c % 100) from ⟨ab, hl⟩) z⟩
          refine (st _ _ _).trans ?_
          rw [itp ab, ho, bi_t hl, ri_k, b_27_109, itp (by decide), wk, ck_t ⟨Int.natCast_nonneg k, k30⟩, ek]
        · refine ⟨fun z => absurd z.2 hl, fun _ => ⟨(.ref (18 + 6 * (c / 100).toNat), .int (iI (c % 100)), .int (iI 1)), ?_⟩⟩
          refine (st _ _ _).trans ?_
          rw [itp ab, ho, bi_f hl, ri_k, b_27_109, itn (by decide), itp ab]
          rfl
      · refine ⟨fun z => absurd z.1 ab, fun _ => ⟨(.ref (18 + 6 * (c / 100).toNat), .int (iI (c % 100)), .int (iI 0)), ?_⟩⟩
        refine (st _ _ _).trans ?_
        rw [itn ab, itn ab]
        rfl)
    (.retAddr 0, .retAddr 0, .retAddr 0)
  rw [start]
  refine key.trans ?_
  rcases lnO_cases hB (o := o) (q := q) (g := g) (h := h) with ⟨_, h1, h2⟩ | ⟨h1, _, h2⟩
  · rw [h2, h1]; rfl
  · rw [h2, if_neg (by have := h1.1; omega)]
/-- the first that is so -/
noncomputable def fst1 (P : Int → Prop) (n : Int) : Int := itr (fun i x => cif (x = -3 ∧ P i) i x) 0 n.toNat (-3)
theorem fst1_none {P : Int → Prop} {n : Int} (h : ∀ i, 0 ≤ i → i < n → ¬ P i) : fst1 P n = -3 := by
  unfold fst1
  refine itr_I (I := fun x : Int => x = -3) _ _ _ rfl (fun i y h1 h2 h3 => ?_)
  rw [cif_f (fun q => h i h1 (by omega) q.2)]
  exact h3
theorem fst1_some {P : Int → Prop} {n i : Int} (h0 : 0 ≤ i) (h1 : i < n) (hp : P i) (hn : ∀ i', 0 ≤ i' → i' < i → ¬ P i') : fst1 P n = i := by
  unfold fst1
  have : ∀ (k : Nat) (j x : Int), j + k = n → 0 ≤ j → ((j ≤ i ∧ x = -3) ∨ (i < j ∧ x = i)) → itr (fun i x => cif (x = -3 ∧ P i) i x) j k x = i := by
    intro k
    induction k with
    | zero => intro j x hj _ hx; rcases hx with z | z
              · omega
              · exact z.2
    | succ k ih =>
      intro j x hj j0 hx
      rw [itr]
      rcases hx with ⟨z1, z2⟩ | ⟨z1, z2⟩
      · by_cases hji : j = i
        · subst hji
          rw [cif_t ⟨z2, hp⟩]
          exact ih (j + 1) j (by omega) (by omega) (Or.inr ⟨by omega, rfl⟩)
        · rw [cif_f (fun q => hn j j0 (by omega) q.2)]
          exact ih (j + 1) x (by omega) (by omega) (Or.inl ⟨by omega, z2⟩)
      · rw [cif_f (fun q => by omega)]
        exact ih (j + 1) x (by omega) (by omega) (Or.inr ⟨by omega, z2⟩)
  exact this n.toNat 0 (-3) (by omega) (by omega) (Or.inl ⟨h0, rfl⟩)
theorem fst1_cases {P : Int → Prop} {n : Int} : (fst1 P n = -3 ∧ ∀ i, 0 ≤ i → i < n → ¬ P i) ∨ (0 ≤ fst1 P n ∧ fst1 P n < n ∧ P (fst1 P n)) := by
  by_cases h : ∃ i, 0 ≤ i ∧ i < n ∧ P i
  · have : ∀ (k : Nat), (k : Int) ≤ n → (∃ i, 0 ≤ i ∧ i < (k : Int) ∧ P i) → ∃ i, 0 ≤ i ∧ i < (k : Int) ∧ P i ∧ ∀ i', 0 ≤ i' → i' < i → ¬ P i' := by
      intro k
      induction k with
      | zero => rintro _ ⟨i, h0, h1, _⟩; omega
      | succ k ih =>
        rintro hk ⟨i, h0, h1, h2⟩
        by_cases hx : ∃ i, 0 ≤ i ∧ i < (k : Int) ∧ P i
        · obtain ⟨i, a, b, c, dd⟩ := ih (by omega) hx
          exact ⟨i, a, by omega, c, dd⟩
        · have : i = k := by
            by_cases z : i < k
            · exact absurd ⟨i, h0, z, h2⟩ hx
            · omega
          exact ⟨i, h0, h1, h2, fun i' a b c => hx ⟨i', a, by omega, c⟩⟩
    obtain ⟨i0, a0, b0, c0⟩ := h
    obtain ⟨i, a, b, c, dd⟩ := this n.toNat (by omega) ⟨i0, a0, by omega, c0⟩
    have e1 := fst1_some a (by omega : i < n) c dd
    rw [e1]
    exact Or.inr ⟨a, by omega, c⟩
  · have hn : ∀ i, 0 ≤ i → i < n → ¬ P i := fun i h0 h1 h2 => h ⟨i, h0, h1, h2⟩
    exact Or.inl ⟨fst1_none hn, hn⟩
/-- a deed that fails one -/
def fls (N : Int → Int) (o p g h k q : Int) : Prop := (N (794 + 6 * q + 0) = p ∧ N (794 + 6 * q + 3) ≤ h ∧ N (794 + 6 * q + 5) ≤ k) ∧ fails N o q g h
noncomputable def ff (N : Int → Int) (o p g h k : Int) : Int := fst1 (fls N o p g h k) (N 4)
noncomputable def whyS (N : Int → Int) (o p g h k : Int) : Int := if ¬ ff N o p g h k = -3 then ff N o p g h k else if 0 < g then -3 else -9
theorem L_first {o h p g k : Int} {mi : Int} (X : LXm o h mi m) (hp : wr p = p) (hk : wr k = k) (hg : 0 ≤ g ∧ g ≤ 12) (hh : 0 ≤ h ∧ h ≤ 9999) : Z e (d + 3) 29 0 [.ref 202, .int (iI p), .int (iI g), .int (iI h), .int (iI k), .retAddr 0, .retAddr 0, .retAddr 0] [] m = ri (ff (m 247) o p g h k) m := by
  have X0 := X
  obtain ⟨⟨iN, iG, iP, iH, iS, iD, iT, iO, iU, iR, iV⟩, hr, lw, ga⟩ := X
  have bN := iN
  unfold cNum at bN
  have hB := vB_of iN iV
  have hw : wr h = h := wr_of (by omega) (by omega)
  have e8 : m 8 3 = m 247 4 := bN.2.2.2.2.1.1
  have step : ∀ (i : Int) (u6 u7 : Value), 0 ≤ i → i < m 247 4 → (fls (m 247) o p g h k i → Z e (d + 3) 29 3 [.ref 202, .int (iI p), .int (iI g), .int (iI h), .int (iI k), .int (iI i), u6, u7] [] m = ri i m) ∧ (¬ fls (m 247) o p g h k i → ∃ u6' u7', Z e (d + 3) 29 3 [.ref 202, .int (iI p), .int (iI g), .int (iI h), .int (iI k), .int (iI i), u6, u7] [] m = Z e (d + 3) 29 3 [.ref 202, .int (iI p), .int (iI g), .int (iI h), .int (iI k), .int (iI (i + 1)), u6', u7'] [] m) := by
    intro i u6 u7 g1 g2
    have dq := iD i g1 g2
    unfold dRow at dq
    obtain ⟨df, d0, d1, d2, d3, d4, d5⟩ := dq
    have i0 := df 0 (by decide) (by decide)
    have i3 := df 3 (by decide) (by decide)
    have i5 := df 5 (by decide) (by decide)
    have w0 := hr 247 (794 + 6 * i + 0)
    have w3 := hr 247 (794 + 6 * i + 3)
    have w5 := hr 247 (794 + 6 * i + 5)
    have tl := L_tells (e := e) (d := d) X0 g1 g2 hg hh
    have t0 := get_8 (e := e) (d := d + 2) (m := m) (i := i) (j := 0) (by omega) (by omega) g1 (by omega) (by decide) (by decide)
    have t3 := get_8 (e := e) (d := d + 2) (m := m) (i := i) (j := 3) (by omega) (by omega) g1 (by omega) (by decide) (by decide)
    have t5 := get_8 (e := e) (d := d + 2) (m := m) (i := i) (j := 5) (by omega) (by omega) g1 (by omega) (by decide) (by decide)
    rw [i0] at t0
    rw [i3] at t3
    rw [i5] at t5
    have wi : wr i = i := wr_of (by omega) (by omega)
    have w4 : wr (m 247 4) = m 247 4 := hr _ _
    have start : Z e (d + 3) 29 3 [.ref 202, .int (iI p), .int (iI g), .int (iI h), .int (iI k), .int (iI i), u6, u7] [] m = Z e (d + 3) 29 31 [.ref 202, .int (iI p), .int (iI g), .int (iI h), .int (iI k), .int (iI i), u6, u7] [.int (iI (m 247 (794 + 6 * i + 0)))] m := by
      refine (b_29_3).trans ?_
      rw [wi, e8, w4, itp g2, t0, ri_k]
    by_cases c0 : m 247 (794 + 6 * i + 0) = p
    · have s1 : Z e (d + 3) 29 31 [.ref 202, .int (iI p), .int (iI g), .int (iI h), .int (iI k), .int (iI i), u6, u7] [.int (iI (m 247 (794 + 6 * i + 0)))] m = Z e (d + 3) 29 58 [.ref 202, .int (iI p), .int (iI g), .int (iI h), .int (iI k), .int (iI i), u6, u7] [.int (iI (if m 247 (794 + 6 * i + 5) ≤ k then 1 else 0))] m := by
        refine (b_29_31).trans ?_
        rw [w0, hp, itp c0, t5, ri_k, b_29_48, w5, hk]
      by_cases c5 : m 247 (794 + 6 * i + 5) ≤ k
      · rw [itp c5] at s1
        have s2 : Z e (d + 3) 29 58 [.ref 202, .int (iI p), .int (iI g), .int (iI h), .int (iI k), .int (iI i), u6, u7] [.int (iI 1)] m = Z e (d + 3) 29 87 [.ref 202, .int (iI p), .int (iI g), .int (iI h), .int (iI k), .int (iI i), .int (iI 1), u7] [.int (iI (if m 247 (794 + 6 * i + 3) ≤ h then 1 else 0))] m := by
          refine (b_29_58).trans ?_
          rw [itp (by decide), t3, ri_k, b_29_78, w3, hw]
        by_cases c3 : m 247 (794 + 6 * i + 3) ≤ h
        · rw [itp c3] at s2
          have s3 : Z e (d + 3) 29 87 [.ref 202, .int (iI p), .int (iI g), .int (iI h), .int (iI k), .int (iI i), .int (iI 1), u7] [.int (iI 1)] m = Z e (d + 3) 29 103 [.ref 202, .int (iI p), .int (iI g), .int (iI h), .int (iI k), .int (iI i), .int (iI 1), .int (iI 1)] [.int (iI (if lnO (m 247) o i g h < 0 then -3 else lnO (m 247) o i g h)), .ref 202] m := by
            refine (b_29_87 cat_i).trans ?_
            rw [itp (by decide), tl, ri_k]
          rcases lnO_cases hB (o := o) (q := i) (g := g) (h := h) with ⟨_, h1, h2⟩ | ⟨h1, h3, h2⟩
          · have nf : ¬ fails (m 247) o i g h := fun z => by have := z.1; omega
            refine ⟨fun z => absurd z.2 nf, fun _ => ⟨.int (iI 1), .int (iI 1), ?_⟩⟩
            rw [h1, if_pos (by decide)] at s3
            rw [start, s1, s2, s3, b_29_103, ck_t (fun z => absurd z (by decide)), itn (fun z => absurd z.1 (by decide))]
          · obtain ⟨k0, k1, k2, k3⟩ := h1
            rw [if_neg (by omega)] at s3
            have efl : fails (m 247) o i g h ↔ lk (m 247) (lnO (m 247) o i g h / 100) (lnO (m 247) o i g h % 100) = 6 := ⟨fun z => z.2, fun z => ⟨k0, z⟩⟩
            have b12 := hB.2.1
            have lr := lRow_of iV (v := lnO (m 247) o i g h / 100) (l := lnO (m 247) o i g h % 100) (by omega) k1 (by omega) k3
            unfold lRow at lr
            have a1 : wr (m (18 + 6 * (lnO (m 247) o i g h / 100).toNat + 1) (lnO (m 247) o i g h % 100)) = lk (m 247) (lnO (m 247) o i g h / 100) (lnO (m 247) o i g h % 100) := by rw [hr]; exact lr.1.1
            have q12 : 0 ≤ lnO (m 247) o i g h / 100 ∧ lnO (m 247) o i g h / 100 < 12 := by omega
            have q10 : 0 ≤ lnO (m 247) o i g h % 100 ∧ lnO (m 247) o i g h % 100 < 10 := by omega
            have jd : jdiv (lnO (m 247) o i g h) 100 = lnO (m 247) o i g h / 100 := jdiv_n k0 (by omega) (by decide) (by decide)
            have jr : jrem (lnO (m 247) o i g h) 100 = lnO (m 247) o i g h % 100 := jrem_n k0 (by omega) (by decide) (by decide)
            have wd : wr (lnO (m 247) o i g h / 100) = lnO (m 247) o i g h / 100 := wr_of (by omega) (by omega)
            have wm : wr (lnO (m 247) o i g h % 100) = lnO (m 247) o i g h % 100 := wr_of (by omega) (by omega)
            have wc : wr (lnO (m 247) o i g h) = lnO (m 247) o i g h := wr_of (by omega) (by omega)
            by_cases l6 : lk (m 247) (lnO (m 247) o i g h / 100) (lnO (m 247) o i g h % 100) = 6
            · refine ⟨fun _ => ?_, fun z => absurd ⟨⟨c0, c3, c5⟩, efl.mpr l6⟩ z⟩
              rw [start, s1, s2, s3, b_29_103, wc, jd, jr, wd, wm, ck_t (fun _ => ⟨q12, q10⟩), a1, itp ⟨k0, l6⟩]
            · refine ⟨fun z => absurd (efl.mp z.2) l6, fun _ => ⟨.int (iI 1), .int (iI 1), ?_⟩⟩
              rw [start, s1, s2, s3, b_29_103, wc, jd, jr, wd, wm, ck_t (fun _ => ⟨q12, q10⟩), a1, itn (fun z => l6 z.2)]
        · rw [itn c3] at s2
          refine ⟨fun z => absurd z.1.2.1 c3, fun _ => ⟨.int (iI 1), .int (iI 0), ?_⟩⟩
          rw [start, s1, s2, b_29_87 cat_i, itn (by decide)]
      · rw [itn c5] at s1
        refine ⟨fun z => absurd z.1.2.2 c5, fun _ => ⟨.int (iI 0), .int (iI 0), ?_⟩⟩
        rw [start, s1, b_29_58, itn (by decide), b_29_87 cat_i, itn (by decide)]
    · refine ⟨fun z => absurd z.1.1 c0, fun _ => ⟨.int (iI 0), .int (iI 0), ?_⟩⟩
      rw [start, b_29_31, w0, hp, itn c0, b_29_58, itn (by decide), b_29_87 cat_i, itn (by decide)]
  have loop : ∀ (j : Nat) (i : Int) (u6 u7 : Value), i + j = m 247 4 → 0 ≤ i → (∀ i', 0 ≤ i' → i' < i → ¬ fls (m 247) o p g h k i') → Z e (d + 3) 29 3 [.ref 202, .int (iI p), .int (iI g), .int (iI h), .int (iI k), .int (iI i), u6, u7] [] m = ri (ff (m 247) o p g h k) m := by
    intro j
    induction j with
    | zero =>
      intro i u6 u7 hi i0 hn
      have : i = m 247 4 := by omega
      have hf : ff (m 247) o p g h k = -3 := fst1_none (fun i' a b => hn i' a (by omega))
      rw [hf]
      refine (b_29_3).trans ?_
      simp (disch := first | omega | (simp (disch := first | decide | omega) only [um_k, um_e, um_i, uz_k]; omega) | exact cat_i | exact cat_u | exact cat_r | assumption | exact rfl) only [e8, wr_of, ↓reduceIte, ck_T, lt_T, lt_F, le_T, le_F, eq_T, eq_F, and_true, true_and, and_false, false_and, or_true, true_or, or_false, false_or, and_self, or_self, not_true_eq_false, not_false_eq_true, implies_true, forall_const, true_implies, false_implies, ri_k, rn_k, rr_k, wr_bi, bi_e0, bi_e1, bi_T, bi_F, Classical.not_not, itp, itn, ck_t]
    | succ j ih =>
      intro i u6 u7 hi i0 hn
      have st := step i u6 u7 i0 (by omega)
      by_cases hfl : fls (m 247) o p g h k i
      · have hf : ff (m 247) o p g h k = i := fst1_some i0 (by omega) hfl hn
        rw [hf]
        exact st.1 hfl
      · obtain ⟨u6', u7', h1⟩ := st.2 hfl
        rw [h1]
        refine ih (i + 1) u6' u7' (by omega) (by omega) (fun i' a b => ?_)
        by_cases z : i' = i
        · rw [z]; exact hfl
        · exact hn i' a (by omega)
  rw [b_29_0]
  exact loop (m 247 4).toNat 0 _ _ (by omega) (by omega) (fun i' a b => by omega)
end TL
