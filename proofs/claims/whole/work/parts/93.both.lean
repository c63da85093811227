/-! both. -/
section BO
variable {e : List Int32 × Value} {d : Nat} {m m0 : zMm} {N : Int → Int}
theorem itr_add {α : Type} {f : Int → α → α} : ∀ (a b : Nat) (j : Int) (x : α), itr f j (a + b) x = itr f (j + a) b (itr f j a x)
  | 0, b, j, x => by rw [Nat.zero_add, itr, show j + ((0 : Nat) : Int) = j by omega]
  | a + 1, b, j, x => by rw [show a + 1 + b = (a + b) + 1 by omega, itr, itr_add a b (j + 1), itr, show j + 1 + (a : Int) = j + ((a + 1 : Nat) : Int) by omega]
def ask (N : Int → Int) (p : Int) : Prop := N (110 + 9 * p + 2) < 5 ∧ 0 < dcn N p
noncomputable def askS (N : Int → Int) : Int := itr (fun p b => cif (ask N p) (jor b (jshl 1 p)) b) 0 (N 1).toNat 0
noncomputable def udo (N : Int → Int) (S : Int) : Int := itr (fun p y => y + bi (¬ tb S p ∧ ask N p)) 0 (N 1).toNat 0
theorem askS_b (b1 : 0 ≤ N 1 ∧ N 1 ≤ 16) : (0 ≤ askS N ∧ askS N < 65536) ∧ ∀ p, 0 ≤ p → (tb (askS N) p ↔ p < N 1 ∧ ask N p) := by
  have q := bset (P := ask N) (n := N 1) b1.1 (by omega)
  refine ⟨⟨q.1.1, Int.lt_of_lt_of_le q.1.2 ?_⟩, q.2⟩
  have h3 : (2 : Int) ^ (N 1).toNat ≤ 2 ^ 16 := by
    have := Nat.pow_le_pow_right (n := 2) (by decide) (show (N 1).toNat ≤ 16 by omega)
    exact_mod_cast this
  exact h3
theorem bc_udo {S : Int} (b1 : 0 ≤ N 1 ∧ N 1 ≤ 16) (s0 : 0 ≤ S) (s1 : S < 65536) : bc (jand (askS N) (jxor S (-1))) = udo N S := by
  have ab := askS_b b1
  have zb := jandn_b (x := askS N) (y := S) ab.1.1 (by omega) s0 (by omega)
  have bit : ∀ i, 0 ≤ i → i < 16 → jand (jshr (jand (askS N) (jxor S (-1))) i) 1 = bi (i < N 1 ∧ (¬ tb S i ∧ ask N i)) := fun i i0 i1 => by
    rw [jbit zb.1 (by omega) i0 (by omega)]
    refine bi_cg ?_
    rw [tb_andn ab.1.1 (by omega) s0 (by omega) i0 (by omega), ab.2 i i0]
    exact ⟨fun z => ⟨z.1.1, z.2, z.1.2⟩, fun z => ⟨⟨z.1, z.2.2⟩, z.2.1⟩⟩
  unfold bc udo
  rw [show (16 : Nat) = (N 1).toNat + (16 - (N 1).toNat) by omega, itr_add]
  have tail : ∀ x : Int, itr (fun i y => y + jand (jshr (jand (askS N) (jxor S (-1))) i) 1) (0 + ((N 1).toNat : Int)) (16 - (N 1).toNat) x = x := fun x => by
    refine itr_I (I := fun y : Int => y = x) _ _ _ rfl (fun i y h1 h2 h3 => ?_)
    rw [bit i (by omega) (by omega), bi_f (fun z => by omega), h3]
    exact Int.add_zero x
  rw [tail]
  refine itr_cg _ _ _ (fun i y h1 h2 => ?_)
  rw [bit i h1 (by omega)]
  exact congrArg (fun z => y + z) (bi_cg ⟨fun z => z.2, fun z => ⟨by omega, z⟩⟩)
theorem udo_b {S : Int} : 0 ≤ udo N S ∧ udo N S ≤ (N 1).toNat := by
  unfold udo
  generalize (N 1).toNat = k
  induction k with
  | zero => exact ⟨Int.le_refl 0, Int.le_refl 0⟩
  | succ k ik =>
    rw [itr_succ]
    have hb : ∀ P : Prop, 0 ≤ bi P ∧ bi P ≤ 1 := fun P => by rcases bi_01 (P := P) with z | z <;> omega
    have := hb (¬ tb S (0 + (k : Int)) ∧ ask N (0 + (k : Int)))
    omega
theorem dcn_b {p : Int} : 0 ≤ dcn N p ∧ dcn N p ≤ (N 4).toNat := by
  unfold dcn
  generalize (N 4).toNat = k
  induction k with
  | zero => exact ⟨Int.le_refl 0, Int.le_refl 0⟩
  | succ k ik =>
    rw [itr_succ]
    have hb : ∀ P : Prop, 0 ≤ bi P ∧ bi P ≤ 1 := fun P => by rcases bi_01 (P := P) with z | z <;> omega
    have := hb (N (794 + 6 * (0 + (k : Int)) + 0) = p)
    omega
theorem L_doers {S : Int} (hr : Rng m) (iN : cNum m (m 247)) (iP : cPpl m (m 247)) (iD : cDee m (m 247)) (s0 : 0 ≤ S) (s1 : S < 65536) : Z e (d + 3) 41 0 [.ref 202, .int (iI S), .retAddr 0, .retAddr 0, .retAddr 0] [] m = ri (udo (m 247) S) m := by
  have bN := iN
  unfold cNum at bN
  have key := lpG (F := fun i y (u : Value) => Z e (d + 3) 41 4 [.ref 202, .int (iI S), .int (iI y), .int (iI i), u] [] m) (G := fun y => ri y m) (f := fun p y => y + bi (¬ tb S p ∧ ask (m 247) p)) (I := fun _ _ => True) (n := m 247 1) (by omega) 0 (.retAddr 0) trivial
    (by
      intro p y u g1 g2 gI
      have wp : wr p = p := wr_of (by omega) (by omega)
      have w1 : wr (m 247 1) = m 247 1 := hr _ _
      have hbit := jbit (x := S) (h := p) s0 (by omega) g1 (by omega)
      have ic := W_isCaught (e := e) (d := d) (p := p) hr iN iP g1 g2
      have dd := W_deedsOf (e := e) (d := d + 1) (p := p) hr iN iD wp
      have db := dcn_b (N := m 247) (p := p)
      have wd : wr (dcn (m 247) p) = dcn (m 247) p := wr_of (by omega) (by omega)
      have start : Z e (d + 3) 41 4 [.ref 202, .int (iI S), .int (iI y), .int (iI p), u] [] m = _ := b_41_4
      rw [wp, bN.2.1.1, w1, itp g2, hbit] at start
      by_cases ht : tb S p
      · rw [bi_t ht, itn (by decide), b_41_42, itn (by decide)] at start
        rw [bi_f (fun z => z.1 ht), show y + (0 : Int) = y from Int.add_zero y]
        exact ⟨⟨.int (iI 0), start⟩, trivial⟩
      · rw [bi_f ht, itp rfl, ic, ri_k, b_41_34, wr_bi] at start
        by_cases ha : 5 ≤ m 247 (110 + 9 * p + 2)
        · rw [bi_t ha, itn (by decide), b_41_42, itn (by decide)] at start
          rw [bi_f (fun z => by have := z.2.1; omega), show y + (0 : Int) = y from Int.add_zero y]
          exact ⟨⟨.int (iI 0), start⟩, trivial⟩
        · rw [bi_f ha, itp rfl, b_41_42, itp (by decide), dd, ri_k, b_41_57, wd] at start
          by_cases h0 : 0 < dcn (m 247) p
          · rw [itp h0] at start
            rw [bi_t ⟨ht, by omega, h0⟩]
            exact ⟨⟨.int (iI 1), start⟩, trivial⟩
          · rw [itn h0] at start
            rw [bi_f (fun z => h0 z.2.2), show y + (0 : Int) = y from Int.add_zero y]
            exact ⟨⟨.int (iI 1), start⟩, trivial⟩)
    (by
      intro y u gI
      refine (b_41_4).trans ?_
      have w1 : wr (m 247 1) = m 247 1 := hr _ _
      rw [bN.2.1.1, w1, itn (by omega)])
  rw [b_41_0]
  exact key.1
theorem um_um {k : Nat} {i x y : Int} : um (um m k i x) k i y = um m k i y := by
  funext k' i'
  unfold um
  by_cases h : k' = k ∧ i' = i
  · rw [if_pos h, if_pos h]
  · rw [if_neg h, if_neg h, if_neg h]
theorem um_id {k : Nat} {i : Int} : um m k i (m k i) = m := by
  funext k' i'
  unfold um
  by_cases h : k' = k ∧ i' = i
  · rw [if_pos h, h.1, h.2]
  · rw [if_neg h]
/-- whether a mile does for both -/
def doB (N : Int → Int) (n k mi : Int) : Prop := bc (jand (sfS N (-1) (mile N (-1) (N 0))) (jxor (sfS N (-1) mi) (-1))) ≤ n ∧ k ≤ udo N (sfS N (-1) mi)
noncomputable def gmS (N : Int → Int) (n k : Int) : Int := itr (fun mi x => cif (doB N n k mi) mi x) 0 19 (-3)
theorem L_both {n k : Int} (hI : Inv m) (hn : wr n = n) (hk : wr k = k) : ∃ m', Z e (d + 6) 40 0 [.ref 202, .int (iI n), .int (iI k), .retAddr 0, .retAddr 0, .retAddr 0, .retAddr 0] [] m = ri (gmS (m 247) n k) m' ∧ Inv m' ∧ m' 247 = m 247 := by
  obtain ⟨hr, ⟨iN, iG, iP, iH, iS, iD, iT, iO, iU, iR, iV⟩, iK, iL, iF, iB, iA, iW, iX⟩ := id hI
  have bN := iN
  unfold cNum at bN
  obtain ⟨m1, a1, a2⟩ := asAt_ok (e := e) (d := d) (h := m 247 0) hI (hr _ _)
  have hI1 := AS_Inv hI a2
  have en := AS_n a2
  have X := AS_LX hI a2
  have hx : LXm (-1) (m1 247 0) (mile (m1 247) (-1) (m1 247 0)) m1 := by
    rw [en]
    unfold LX at X
    rw [en] at X
    exact X
  have xs := X_safe (e := e) (d := d) hx
  rw [en] at xs
  have b1 : 0 ≤ m 247 1 ∧ m 247 1 ≤ 16 := by omega
  have wb := (sfS_b (N := m 247) (o := -1) (mi := mile (m 247) (-1) (m 247 0)) b1).1
  have cor : ∀ x : Int, wr x = x → LXm (-1) (um m1 202 6 x 247 0) x (um m1 202 6 x) := fun x hwx => by
    have e1 : um m1 202 6 x 247 = m1 247 := um_r (by decide)
    rw [e1]
    obtain ⟨x1, x2, x3, x4⟩ := hx
    refine ⟨?_, x2.um hwx, ?_, ?_⟩
    · rw [e1]; exact Core_cg (fun k _ _ => um_r (by omega)) (fun _ _ _ => rfl) x1
    · rw [e1]
      refine ⟨fun s s0 s1 => ?_, fun q q0 q1 => ?_⟩
      · have h6 := b1
        rw [um_r (by have : m1 247 2 ≤ 6 := by rw [en]; omega
                     omega)]
        exact x3.1 s s0 s1
      · rw [um_r (by decide), um_r (by decide)]; exact x3.2 q q0 q1
    · rw [e1]
      obtain ⟨g1, g2, g3, g4, g5⟩ := x4
      exact ⟨by rw [um_i (by decide)]; exact g1, fun i hi => by rw [um_k (by decide)]; exact g2 i hi, um_s, by rw [um_i (by decide)]; exact g4, by rw [um_i (by decide)]; exact g5⟩
  have inv : ∀ x : Int, wr x = x → Inv (um m1 202 6 x) := fun x hwx => by
    refine Inv_law hI1 (hI1.1.um hwx) (fun k z => um_r (by unfold lwk at z; omega)) ⟨by rw [um_i (by decide)]; exact a2.2.2.1, Or.inr ⟨by rw [um_i (by decide)]; exact a2.2.2.2.1, ?_⟩⟩
    rw [um_r (by decide), en]
    have lc := (LawC_iff (m := m) (m' := m1) (sB_of iN iS) (vB_of iN iV) (by omega) iD).mpr (by have := X.2.2.1; rw [en] at this; exact this)
    unfold LawC at lc ⊢
    refine ⟨fun s s0 s1 => ?_, fun q q0 q1 => ?_⟩
    · have : nz (m 247) 2 = m 247 2 := nz_i (by omega)
      rw [um_r (by omega)]
      exact lc.1 s s0 s1
    · rw [um_r (by decide), um_r (by decide)]; exact lc.2 q q0 q1
  generalize hW : sfS (m 247) (-1) (mile (m 247) (-1) (m 247 0)) = W at *
  have loop : ∀ (j : Nat) (x0 : Int) (u5 u6 : Value), j ≤ 19 → wr x0 = x0 → ∃ m', Z e (d + 6) 40 9 [.ref 202, .int (iI n), .int (iI k), .int (iI W), .int (iI ((j : Int) - 1)), u5, u6] [] (um m1 202 6 x0) = ri (itr (fun mi x => cif (doB (m 247) n k mi) mi x) 0 j (-3)) m' ∧ Inv m' ∧ m' 247 = m 247 := by
    intro j
    induction j with
    | zero =>
      intro x0 u5 u6 _ hx0
      refine ⟨um m1 202 6 x0, ?_, inv x0 hx0, by rw [um_r (by decide)]; exact en⟩
      refine (b_40_9).trans ?_
      rw [itn (by decide)]
      rfl
    | succ j ih =>
      intro x0 u5 u6 hj hx0
      obtain ⟨mi, hmi⟩ : ∃ mi : Int, mi = (j : Int) := ⟨_, rfl⟩
      have m0' : 0 ≤ mi := by omega
      have m18 : mi ≤ 18 := by omega
      have wmi : wr mi = mi := wr_of (by omega) (by omega)
      have ej : ((j + 1 : Nat) : Int) - 1 = mi := by omega
      have ej2 : mi + -1 = (j : Int) - 1 := by omega
      rw [itr_succ, Int.zero_add, ← hmi, ej]
      have e1 : um m1 202 6 mi 247 = m 247 := by rw [um_r (by decide)]; exact en
      have xs2 := X_safe (e := e) (d := d + 1) (cor mi wmi)
      rw [e1] at xs2
      have sb := (sfS_b (N := m 247) (o := -1) (mi := mi) b1).1
      have hIm := inv mi wmi
      have dob : doB (m 247) n k mi ↔ bc (jand W (jxor (sfS (m 247) (-1) mi) (-1))) ≤ n ∧ k ≤ udo (m 247) (sfS (m 247) (-1) mi) := by unfold doB; rw [hW]
      generalize sfS (m 247) (-1) mi = S at *
      have zb := jandn_b (x := W) (y := S) wb.1 (by omega) sb.1 (by omega)
      have bc1 := bitCount16 (e := e) (d := d + 5) (m := um m1 202 6 mi) (x := jand W (jxor S (-1))) zb.1 (by omega)
      have bcb := (M_bits16 (e := e) (d := d) (m := m) (x := jand W (jxor S (-1))) zb.1 (by omega)).2
      have wbc : wr (bc (jand W (jxor S (-1)))) = bc (jand W (jxor S (-1))) := wr_of (by omega) (by omega)
      have ud := L_doers (e := e) (d := d + 2) (m := um m1 202 6 mi) (S := S) hIm.1 hIm.2.1.1 hIm.2.1.2.2.1 hIm.2.1.2.2.2.2.2.1 sb.1 sb.2
      rw [e1] at ud
      have ub := udo_b (N := m 247) (S := S)
      have wu : wr (udo (m 247) S) = udo (m 247) S := wr_of (by omega) (by omega)
      have st2 : Z e (d + 6) 40 9 [.ref 202, .int (iI n), .int (iI k), .int (iI W), .int (iI mi), u5, u6] [] (um m1 202 6 x0) = _ := b_40_9
      rw [wmi, itp m0', um_um, xs2, ri_k] at st2
      rw [b_40_24, bc1, ri_k, b_40_35, wbc, hn] at st2
      by_cases c1 : bc (jand W (jxor S (-1))) ≤ n
      · rw [itp c1, ud, ri_k, b_40_45, hk, wu] at st2
        by_cases c2 : k ≤ udo (m 247) S
        · rw [itp c2, b_40_54 cat_i, itp (by decide)] at st2
          rw [cif_t (dob.mpr ⟨c1, c2⟩)]
          exact ⟨_, st2, hIm, e1⟩
        · rw [itn c2, b_40_54 cat_i, itn (by decide), ej2] at st2
          rw [cif_f (fun z => c2 (dob.mp z).2)]
          obtain ⟨m', p1, p2⟩ := ih mi (.int (iI S)) (.int (iI 0)) (by omega) wmi
          exact ⟨m', st2.trans p1, p2⟩
      · rw [itn c1, b_40_54 cat_i, itn (by decide), ej2] at st2
        rw [cif_f (fun z => c1 (dob.mp z).1)]
        obtain ⟨m', p1, p2⟩ := ih mi (.int (iI S)) (.int (iI 0)) (by omega) wmi
        exact ⟨m', st2.trans p1, p2⟩
  obtain ⟨m', p1, p2⟩ := loop 19 (m1 202 6) (.retAddr 0) (.retAddr 0) (by decide) (hI1.1 _ _)
  rw [um_id] at p1
  refine ⟨m', ?_, p2⟩
  rw [b_40_0, b_32_0, bN.1.1, a1, rn_k, b_32_11, xs, ri_k, b_32_15, ri_k, b_40_4]
  exact p1
theorem M_both {n k : Int} (hI : Inv m) (hn : wr n = n) (hk : wr k = k) (n0 : 0 ≤ n) (n1 : n ≤ 16) (k0 : 0 ≤ k) (k1 : k ≤ 16) : ∃ m', Z e (d + 15) 299 0 [.ref 246, .int (iI (n)), .int (iI (k)), .retAddr 0, .retAddr 0, .retAddr 0, .retAddr 0, .retAddr 0] [] m = ri (gmS (m 247) n k) m' ∧ RM m m' := by
  obtain ⟨hr, ⟨iN, iG, iP, iH, iS, iD, iT, iO, iU, iR, iV⟩, iK, iL, iF, iB, iA, iW, iX⟩ := id hI
  have bN := iN
  unfold cNum at bN
  have b1 : 0 ≤ m 247 1 ∧ m 247 1 ≤ 16 := by omega
  obtain ⟨m1, a1, a2⟩ := M_safeBy (e := e) (d := d) (v := -1) hI.2.1 hI.1 (RM.refl hI) (o_of hI) rfl (mil_um hI)
  have nn := a2.n
  have wb := (sfS_b (N := m 247) (o := -1) (mi := mile (m 247) (-1) (m 247 0)) b1).1
  have w1 : wr (m 247 1) = m 247 1 := hr _ _
  have asked : ∀ u6 u7 : Value, Z e (d + 15) 299 34 [.ref 246, .int (iI n), .int (iI k), .int (iI (sfS (m 247) (-1) (mile (m 247) (-1) (m 247 0)))), .int (iI 0), .int (iI 0), u6, u7] [] m1 = Z e (d + 15) 299 91 [.ref 246, .int (iI n), .int (iI k), .int (iI (sfS (m 247) (-1) (mile (m 247) (-1) (m 247 0)))), .int (iI (askS (m 247))), .int (iI (-3)), .int (iI 0), u7] [] m1 := by
    intro u6 u7
    have key := lpG (F := fun i y (_ : Unit) => Z e (d + 15) 299 34 [.ref 246, .int (iI n), .int (iI k), .int (iI (sfS (m 247) (-1) (mile (m 247) (-1) (m 247 0)))), .int (iI y), .int (iI i), u6, u7] [] m1) (G := fun y => Z e (d + 15) 299 91 [.ref 246, .int (iI n), .int (iI k), .int (iI (sfS (m 247) (-1) (mile (m 247) (-1) (m 247 0)))), .int (iI y), .int (iI (-3)), .int (iI 0), u7] [] m1) (f := fun p b => cif (ask (m 247) p) (jor b (jshl 1 p)) b) (I := fun _ y => wr y = y) (n := m 247 1) b1.1 0 () rfl
      (by
        intro p y u g1 g2 gI
        have wp : wr p = p := wr_of (by omega) (by omega)
        have y2 : wr (110 + 9 * p + 2) = 110 + 9 * p + 2 := wr_of (by omega) (by omega)
        have z2 : 0 ≤ 110 + 9 * p + 2 ∧ 110 + 9 * p + 2 < 2737 := by omega
        have cN1 : cNum m1 (m1 247) := by
          rw [nn]
          exact cNum_cg (a2.2.1 _ (by unfold rfk; omega)) (a2.2.1 _ (by unfold rfk; omega)) (a2.2.1 _ (by unfold rfk; omega)) (a2.2.1 _ (by unfold rfk; omega)) (a2.2.1 _ (by unfold rfk; omega)) (a2.2.1 _ (by unfold rfk; omega)) (a2.2.1 _ (by unfold rfk; omega)) (a2.2.1 _ (by unfold rfk; omega)) (fun _ _ _ => rfl) iN
        have po := M_personOf (e := e) (d := d + 12) (m := m1) (p := p) (w := 9) a2.1 cN1 wp rfl g1 (by rw [nn]; exact g2) (by decide) (by decide)
        rw [nn, if_pos rfl] at po
        have db := dcn_b (N := m 247) (p := p)
        have wd : wr (dcn (m 247) p) = dcn (m 247) p := wr_of (by omega) (by omega)
        refine ⟨⟨(), ?_⟩, ?_⟩
        · refine (b_299_34).trans ?_
          rw [wp, nn, w1, itp g2, y2, ck_t z2, hr]
          by_cases c5 : 5 ≤ m 247 (110 + 9 * p + 2)
          · rw [itn (fun z => z c5), cif_f (fun z => by have := z.1; omega), jor_0 gI]
          · rw [itp c5, po, ri_k, b_299_64, wd]
            by_cases c0 : 0 < dcn (m 247) p
            · rw [itp c0, cif_t ⟨by omega, c0⟩]
            · rw [itn c0, cif_f (fun z => c0 z.2), jor_0 gI]
        · by_cases z : ask (m 247) p
          · rw [cif_t z]; exact wr_jor
          · rw [cif_f z]; exact gI)
      (by
        intro y u gI
        refine (b_299_34).trans ?_
        rw [nn, w1, itn (by omega)])
    exact key.1
  have ab := (askS_b (N := m 247) b1).1
  have bu : ∀ S, 0 ≤ S → S < 65536 → bc (jand (askS (m 247)) (jxor S (-1))) = udo (m 247) S := fun S s0 s1 => bc_udo b1 s0 s1
  generalize hW : sfS (m 247) (-1) (mile (m 247) (-1) (m 247 0)) = W at *
  generalize askS (m 247) = A at *
  have e14 : m 246 14 = -1 := hI.2.2.2.2.1.2.1
  have loop : ∀ (j : Nat) (mi x : Int) (m2 : zMm) (u7 : Value), mi + j = 19 → 0 ≤ mi → RM m m2 → ∃ m', Z e (d + 15) 299 91 [.ref 246, .int (iI n), .int (iI k), .int (iI W), .int (iI A), .int (iI x), .int (iI mi), u7] [] m2 = ri (itr (fun mi x => cif (doB (m 247) n k mi) mi x) mi j x) m' ∧ RM m m' := by
    intro j
    induction j with
    | zero =>
      intro mi x m2 u7 hm m0' R2
      refine ⟨m2, ?_, R2⟩
      refine (b_299_91).trans ?_
      rw [wr_of (x := mi) (by omega) (by omega), itn (by omega)]
      rfl
    | succ j ih =>
      intro mi x m2 u7 hm m0' R2
      have wmi : wr mi = mi := wr_of (by omega) (by omega)
      have u247 : um m 246 14 mi 247 = m 247 := um_r (by decide)
      obtain ⟨m3, c1, c2⟩ := M_safeBy (e := e) (d := d) (m0 := um m 246 14 mi) (m := um m2 246 14 mi) (v := -1) (mi := mi) (F := m) (by rw [u247]; exact hI.2.1) (hr.um wmi) (RM.um246 (by decide) R2 wmi) (by rw [um_i (by decide)]; exact o_of hI) rfl (by
        refine Or.inr ⟨?_, ?_, ?_, by omega⟩
        · rw [um_i (by decide), um_s]; exact m0'
        · simp (disch := first | omega | (simp (disch := first | decide | omega) only [um_k, um_e, um_i, uz_k]; omega) | exact cat_i | exact cat_u | exact cat_r | assumption | exact rfl) only [um_r, um_k, um_i, um_e, uz_r, uz_k, uz_i, uz_in]
        · rw [um_i (by decide), um_s])
      rw [u247] at c1
      have R3 := RM.back (i := 14) (y := -1) (by decide) e14 rfl c2
      have sb := (sfS_b (N := m 247) (o := -1) (mi := mi) b1).1
      have dob : doB (m 247) n k mi ↔ bc (jand W (jxor (sfS (m 247) (-1) mi) (-1))) ≤ n ∧ k ≤ udo (m 247) (sfS (m 247) (-1) mi) := by unfold doB; rw [hW]
      generalize sfS (m 247) (-1) mi = S at *
      have zb := jandn_b (x := W) (y := S) wb.1 (by omega) sb.1 (by omega)
      have zb2 := jandn_b (x := A) (y := S) ab.1 (by omega) sb.1 (by omega)
      have bc1 := M_bits16 (e := e) (d := d + 14) (m := um m3 246 14 (-1)) (x := jand W (jxor S (-1))) zb.1 (by omega)
      have bc2 := M_bits16 (e := e) (d := d + 14) (m := um m3 246 14 (-1)) (x := jand A (jxor S (-1))) zb2.1 (by omega)
      have wbc : wr (bc (jand W (jxor S (-1)))) = bc (jand W (jxor S (-1))) := wr_of (by omega) (by omega)
      have wbc2 : wr (bc (jand A (jxor S (-1)))) = bc (jand A (jxor S (-1))) := wr_of (by omega) (by omega)
      have start : Z e (d + 15) 299 91 [.ref 246, .int (iI n), .int (iI k), .int (iI W), .int (iI A), .int (iI x), .int (iI mi), u7] [] m2 = _ := b_299_91
      rw [wmi, itp (by omega), c1, ri_k, b_299_109, bc1.1, ri_k, b_299_125, wbc, hn] at start
      rw [itr]
      by_cases c3 : bc (jand W (jxor S (-1))) ≤ n
      · rw [itp c3, bc2.1, ri_k, b_299_139, wbc2, hk, bu S sb.1 sb.2] at start
        by_cases c4 : k ≤ udo (m 247) S
        · rw [itp c4] at start
          rw [cif_t (dob.mpr ⟨c3, c4⟩)]
          obtain ⟨m', p1, p2⟩ := ih (mi + 1) mi (um m3 246 14 (-1)) (.int (iI S)) (by omega) (by omega) R3
          exact ⟨m', start.trans p1, p2⟩
        · rw [itn c4] at start
          rw [cif_f (fun z => c4 (dob.mp z).2)]
          obtain ⟨m', p1, p2⟩ := ih (mi + 1) x (um m3 246 14 (-1)) (.int (iI S)) (by omega) (by omega) R3
          exact ⟨m', start.trans p1, p2⟩
      · rw [itn c3] at start
        rw [cif_f (fun z => c3 (dob.mp z).1)]
        obtain ⟨m', p1, p2⟩ := ih (mi + 1) x (um m3 246 14 (-1)) (.int (iI S)) (by omega) (by omega) R3
        exact ⟨m', start.trans p1, p2⟩
  obtain ⟨m', p1, p2⟩ := loop 19 0 (-3) m1 (.retAddr 0) (by decide) (by decide) a2
  refine ⟨m', ?_, p2⟩
  refine Eq.trans ?_ p1
  simp (disch := first | omega | (simp (disch := first | decide | omega) only [um_k, um_e, um_i, uz_k]; omega) | exact cat_i | exact cat_u | exact cat_r | assumption | exact rfl) only [b_299_0, hn, hk, a1, b_299_27, asked, wr_of, ↓reduceIte, ck_T, lt_T, lt_F, le_T, le_F, eq_T, eq_F, and_true, true_and, and_false, false_and, or_true, true_or, or_false, false_or, and_self, or_self, not_true_eq_false, not_false_eq_true, implies_true, forall_const, true_implies, false_implies, ri_k, rn_k, rr_k, wr_bi, bi_e0, bi_e1, bi_T, bi_F, Classical.not_not, itp, itn, ck_t]
theorem call_both {n k : Int} (hI : Inv m) (hn : wr n = n) (hk : wr k = k) : Both (Z e (d + 7) 182 0 [.ref 0, .int (iI (n)), .int (iI (k))] []) (Z e (d + 15) 299 0 [.ref 246, .int (iI (n)), .int (iI (k)), .retAddr 0, .retAddr 0, .retAddr 0, .retAddr 0, .retAddr 0] []) m := by
  by_cases h1 : 0 ≤ n ∧ n ≤ 16 ∧ 0 ≤ k ∧ k ≤ 16
  · obtain ⟨m1, a1, a2, a3⟩ := L_both (e := e) (d := d) hI hn hk
    obtain ⟨m2, b1, b2⟩ := M_both (e := e) (d := d) a2 hn hk h1.1 h1.2.1 h1.2.2.1 h1.2.2.2
    rw [a3] at b1
    refine ⟨gmS (m 247) n k, m1, m2, ?_, b1, Inv_ref a2 b2⟩
    rw [b_182_0, hn, hk, itn (by omega), a1, ri_k, b_182_31]
  · refine Both.same hI (-1) ?_ ?_
    · simp (disch := first | omega | (simp (disch := first | decide | omega) only [um_k, um_e, um_i, uz_k]; omega) | exact cat_i | exact cat_u | exact cat_r | assumption | exact rfl) only [b_182_0, hn, hk, wr_of, ↓reduceIte, ck_T, lt_T, lt_F, le_T, le_F, eq_T, eq_F, and_true, true_and, and_false, false_and, or_true, true_or, or_false, false_or, and_self, or_self, not_true_eq_false, not_false_eq_true, implies_true, forall_const, true_implies, false_implies, ri_k, rn_k, rr_k, wr_bi, bi_e0, bi_e1, bi_T, bi_F, Classical.not_not, itp, itn, ck_t]
    · simp (disch := first | omega | (simp (disch := first | decide | omega) only [um_k, um_e, um_i, uz_k]; omega) | exact cat_i | exact cat_u | exact cat_r | assumption | exact rfl) only [b_299_0, hn, hk, wr_of, ↓reduceIte, ck_T, lt_T, lt_F, le_T, le_F, eq_T, eq_F, and_true, true_and, and_false, false_and, or_true, true_or, or_false, false_or, and_self, or_self, not_true_eq_false, not_false_eq_true, implies_true, forall_const, true_implies, false_implies, ri_k, rn_k, rr_k, wr_bi, bi_e0, bi_e1, bi_T, bi_F, Classical.not_not, itp, itn, ck_t]
end BO
