/-! The run: the reference's table. -/
noncomputable def sFd (N : Int → Int) (lg n c : Int) : Int := bi (¬ seeS N c ((N 0 + n / lg + 1) % 24) = 0)
def okS (N : Int → Int) (c s : Int) : Prop := ¬ nbr c s = -3 ∧ ¬ wall N (nbr c s)
/-- the price of what is ahead with k steps left: 1000 for each seen, 1 for each -/
noncomputable def aV (N : Int → Int) (to lg : Int) : Nat → Int → Int
  | 0, c => cif (c = to ∧ ¬ wall N c) 0 1000000
  | k + 1, c => cif (c = to ∧ ¬ wall N c) 0 (itr (fun s x => cif (okS N c s ∧ aV N to lg k (nbr c s) < 1000000) (min x (aV N to lg k (nbr c s) + 1 + 1000 * sFd N lg (59 - k) (nbr c s))) x) 0 4 1000000)
section RU
variable {e : List Int32 × Value} {d : Nat} {m : zMm} {N : Int → Int} {to lg : Int}
def vld (k v : Int) : Prop := v = 1000000 ∨ (0 ≤ v ∧ v / 1000 ≤ v % 1000 ∧ v % 1000 ≤ k)
theorem sFd_01 {n c : Int} : sFd N lg n c = 0 ∨ sFd N lg n c = 1 := bi_01
theorem aV_b : ∀ (k : Nat) (c : Int), k ≤ 60 → vld k (aV N to lg k c) ∧ (aV N to lg k c = 0 ↔ c = to ∧ ¬ wall N c) := by
  intro k
  induction k with
  | zero =>
    intro c _
    rw [aV]
    by_cases z : c = to ∧ ¬ wall N c
    · rw [cif_t z]; exact ⟨Or.inr ⟨by decide, by decide, by decide⟩, ⟨fun _ => z, fun _ => rfl⟩⟩
    · rw [cif_f z]; exact ⟨Or.inl rfl, ⟨fun y => absurd y (by decide), fun y => absurd y z⟩⟩
  | succ k ih =>
    intro c hk
    rw [aV]
    by_cases z : c = to ∧ ¬ wall N c
    · rw [cif_t z]; exact ⟨Or.inr ⟨by decide, by decide, by omega⟩, ⟨fun _ => z, fun _ => rfl⟩⟩
    · rw [cif_f z]
      have : vld (k + 1 : Nat) (itr (fun s x => cif (okS N c s ∧ aV N to lg k (nbr c s) < 1000000) (min x (aV N to lg k (nbr c s) + 1 + 1000 * sFd N lg (59 - k) (nbr c s))) x) 0 4 1000000) ∧ 0 < (itr (fun s x => cif (okS N c s ∧ aV N to lg k (nbr c s) < 1000000) (min x (aV N to lg k (nbr c s) + 1 + 1000 * sFd N lg (59 - k) (nbr c s))) x) 0 4 1000000) := by
        refine itr_I (I := fun x : Int => vld (k + 1 : Nat) x ∧ 0 < x) _ _ _ ⟨Or.inl rfl, by decide⟩ (fun s y s0 s1 hy => ?_)
        by_cases q : okS N c s ∧ aV N to lg k (nbr c s) < 1000000
        · rw [cif_t q]
          have v := (ih (nbr c s) (by omega)).1
          have s01 := sFd_01 (N := N) (lg := lg) (n := 59 - k) (c := nbr c s)
          generalize aV N to lg k (nbr c s) = v0 at *
          generalize sFd N lg (59 - k) (nbr c s) = s0 at *
          have v' := v.resolve_left (by omega)
          have hv : vld (k + 1 : Nat) (v0 + 1 + 1000 * s0) ∧ 0 < v0 + 1 + 1000 * s0 := by
            refine ⟨Or.inr ?_, by omega⟩
            rcases s01 with w | w <;> subst w <;> omega
          by_cases le : y ≤ v0 + 1 + 1000 * s0
          · rw [show min y (v0 + 1 + 1000 * s0) = y by omega]; exact hy
          · rw [show min y (v0 + 1 + 1000 * s0) = v0 + 1 + 1000 * s0 by omega]; exact hv
        · rw [cif_f q]; exact hy
      refine ⟨this.1, ⟨fun y => by omega, fun y => absurd y z⟩⟩
theorem M_seenAt {n c : Int} (hr : Rng m) (b6 : 0 ≤ m 247 6 ∧ m 247 6 ≤ 8) (iO : ∀ p, 0 ≤ p → p < m 247 6 → 0 ≤ m 247 (1050 + 4 * p) ∧ m 247 (1050 + 4 * p) < 100) (h0 : 0 ≤ m 247 0) (h9 : m 247 0 ≤ 9999) (n0 : 0 ≤ n) (n1 : n ≤ 60) (l0 : 1 ≤ lg) (l1 : lg ≤ 4) (c0 : 0 ≤ c) (c1 : c < 100) : Z e (d + 3) 283 0 [.ref 246, .int (iI (n + 1)), .int (iI c), .int (iI lg)] [] m = ri (sFd (m 247) lg n c) m := by
  have wl : wr lg = lg := wr_of (by omega) (by omega)
  have jd : jdiv n lg = n / lg := jdiv_n n0 (by omega) (by omega) (by omega)
  have nb : 0 ≤ n / lg ∧ n / lg ≤ 60 := ⟨Int.ediv_nonneg n0 (by omega), Int.le_trans (Int.ediv_le_self _ n0) n1⟩
  have jr : jrem (m 247 0 + n / lg + 1) 24 = (m 247 0 + n / lg + 1) % 24 := jrem_n (by omega) (by omega) (by decide) (by decide)
  have se := M_seenBy (e := e) (d := d) (m := m) (c := c) (h := (m 247 0 + n / lg + 1) % 24) hr b6 iO c0 c1 (by omega) (by omega)
  have sb := seeS_256 (N := m 247) (c := c) (h := (m 247 0 + n / lg + 1) % 24) b6
  rw [b_283_0, wl, ck_t (by omega), show n + 1 - 1 = n by omega, jd, jr, se, ri_k, b_283_22, wr_of (x := seeS (m 247) c ((m 247 0 + n / lg + 1) % 24)) (by omega) (by omega), bi_if]
  rfl
/-- the table is right where D says so -/
def tabM (N : Int → Int) (to lg : Int) (D : Int → Int → Prop) (m : zMm) : Prop := ∀ n c, 0 ≤ n → n ≤ 60 → 0 ≤ c → c < 100 → D n c → m 260 (100 * n + c) = aV N to lg (60 - n).toNat c
theorem M_cell {n c : Int} {m0 : zMm} {u7 : Value} (hr : Rng m) (h247 : m 247 = N) (b6 : 0 ≤ N 6 ∧ N 6 ≤ 8) (iO : ∀ p, 0 ≤ p → p < N 6 → 0 ≤ N (1050 + 4 * p) ∧ N (1050 + 4 * p) < 100) (h0 : 0 ≤ N 0) (h9 : N 0 ≤ 9999) (l0 : 1 ≤ lg) (l1 : lg ≤ 4) (n0 : 0 ≤ n) (n1 : n ≤ 60) (c0 : 0 ≤ c) (c1 : c < 100) (t0 : 0 ≤ to) (t1 : to < 100) (T : tabM N to lg (fun n' _ => n < n') m) : ∃ x6 u7', Z e (d + 4) 284 44 [.ref 246, .int (iI to), .int (iI lg), .int (iI n), .int (iI c), .int (iI (if (c = to) ∧ (¬ (N (10 + c) = 1)) then 0 else 1000000)), .int (iI 0), u7] [] m = Z e (d + 4) 284 140 [.ref 246, .int (iI to), .int (iI lg), .int (iI n), .int (iI c), .int (iI (aV N to lg (60 - n).toNat c)), .int (iI x6), u7'] [] m := by
  have wn : wr n = n := wr_of (by omega) (by omega)
  by_cases z : c = to ∧ ¬ wall N c
  · have za : aV N to lg (60 - n).toNat c = 0 := (aV_b (N := N) (to := to) (lg := lg) (60 - n).toNat c (by omega)).2.mpr z
    rw [za, if_pos (show c = to ∧ ¬ N (10 + c) = 1 from z)]
    refine ⟨0, u7, (b_284_44).trans ?_⟩
    rw [itn (fun y => absurd y.2.2 (by decide))]
  · have zi : (if (c = to) ∧ (¬ (N (10 + c) = 1)) then (0 : Int) else 1000000) = 1000000 := if_neg z
    rw [zi]
    by_cases z60 : n = 60
    · have za : aV N to lg (60 - n).toNat c = 1000000 := by
        rw [z60, show (60 - 60 : Int).toNat = 0 from rfl, aV, cif_f z]
      rw [za]
      refine ⟨0, u7, (b_284_44).trans ?_⟩
      rw [wn, itn (fun y => by omega)]
    · obtain ⟨k, hk⟩ : ∃ k : Nat, (60 - n).toNat = k + 1 := ⟨(60 - n).toNat - 1, by omega⟩
      have hk1 : (60 - (n + 1)).toNat = k := by omega
      have hk2 : (59 - (k : Int)) = n := by omega
      rw [hk, aV, cif_f z, hk2]
      have step : ∀ (s y : Int) (u : Value), 0 ≤ s → s < 4 → vld 60 y → 0 < y → ∃ u', Z e (d + 4) 284 44 [.ref 246, .int (iI to), .int (iI lg), .int (iI n), .int (iI c), .int (iI y), .int (iI s), u] [] m = Z e (d + 4) 284 44 [.ref 246, .int (iI to), .int (iI lg), .int (iI n), .int (iI c), .int (iI (cif (okS N c s ∧ aV N to lg k (nbr c s) < 1000000) (min y (aV N to lg k (nbr c s) + 1 + 1000 * sFd N lg n (nbr c s))) y)), .int (iI (s + 1)), u'] [] m := by
        intro s y u s0 s1 vy y0
        have wy : wr y = y := by
          rcases vy with w | w
          · rw [w]; rfl
          · exact wr_of (by omega) (by omega)
        have st := stepTo_ok (e := e) (d := d + 1) (m := m) (c := c) (s := s) c0 c1 s0 s1 hr
        rw [h247] at st
        have start : Z e (d + 4) 284 44 [.ref 246, .int (iI to), .int (iI lg), .int (iI n), .int (iI c), .int (iI y), .int (iI s), u] [] m = _ := b_284_44
        rw [wr_of (x := s) (by omega) (by omega), wn, wy, itp ⟨s1, by omega, by omega⟩, st, ri_k, b_284_69] at start
        by_cases q : nbr c s = -3 ∨ N (10 + nbr c s) = 1
        · rw [itp q, ck_t (fun w => absurd w (by decide)), itn (fun w => absurd w.1 (by decide))] at start
          rw [cif_f (fun w => q.elim w.1.1 w.1.2)]
          exact ⟨_, start⟩
        · have q1 : ¬ nbr c s = -3 := fun w => q (Or.inl w)
          have nb := nbr_b c0 c1 q1
          have ok : okS N c s := ⟨q1, fun w => q (Or.inr w)⟩
          have tv := T (n + 1) (nbr c s) (by omega) (by omega) nb.1 nb.2.1 (by omega)
          rw [hk1] at tv
          have va := (aV_b (N := N) (to := to) (lg := lg) k (nbr c s) (by omega)).1
          have s01 := sFd_01 (N := N) (lg := lg) (n := n) (c := nbr c s)
          have wi : wr (100 * (n + 1) + nbr c s) = 100 * (n + 1) + nbr c s := wr_of (by omega) (by omega)
          have zi2 : 0 ≤ 100 * (n + 1) + nbr c s ∧ 100 * (n + 1) + nbr c s < 6100 := by omega
          have sa := M_seenAt (e := e) (d := d) (m := m) (lg := lg) (n := n) (c := nbr c s) hr (by rw [h247]; exact b6) (by rw [h247]; exact iO) (by rw [h247]; exact h0) (by rw [h247]; exact h9) n0 n1 l0 l1 nb.1 nb.2.1
          rw [h247] at sa
          rw [itn q, wr_of (x := nbr c s) (by omega) (by omega), wi, ck_t (fun _ => zi2), tv] at start
          generalize aV N to lg k (nbr c s) = v0 at *
          generalize sFd N lg n (nbr c s) = f0 at *
          have wv : wr v0 = v0 := by
            rcases va with w | w
            · rw [w]; rfl
            · exact wr_of (by omega) (by omega)
          rw [wv] at start
          by_cases v1 : v0 < 1000000
          · have va' := va.resolve_left (by omega)
            have ws : wr (v0 + 1 + 1000 * f0) = v0 + 1 + 1000 * f0 := wr_of (by omega) (by omega)
            rw [itp ⟨nb.1, v1⟩, ck_t zi2, sa, ri_k, b_284_127, wy, ws] at start
            rw [cif_t ⟨ok, v1⟩]
            by_cases le : y ≤ v0 + 1 + 1000 * f0
            · rw [itp le] at start
              rw [show min y (v0 + 1 + 1000 * f0) = y by omega]
              exact ⟨_, start⟩
            · rw [itn le] at start
              rw [show min y (v0 + 1 + 1000 * f0) = v0 + 1 + 1000 * f0 by omega]
              exact ⟨_, start⟩
          · rw [itn (fun w => v1 w.2)] at start
            rw [cif_f (fun w => v1 w.2)]
            exact ⟨_, start⟩
      have hv : ∀ (j : Nat) (s y : Int) (u : Value), s + j = 4 → 0 ≤ s → vld 60 y → 0 < y → ∃ u', Z e (d + 4) 284 44 [.ref 246, .int (iI to), .int (iI lg), .int (iI n), .int (iI c), .int (iI y), .int (iI s), u] [] m = Z e (d + 4) 284 140 [.ref 246, .int (iI to), .int (iI lg), .int (iI n), .int (iI c), .int (iI (itr (fun s x => cif (okS N c s ∧ aV N to lg k (nbr c s) < 1000000) (min x (aV N to lg k (nbr c s) + 1 + 1000 * sFd N lg n (nbr c s))) x) s j y)), .int (iI 4), u'] [] m := by
        intro j
        induction j with
        | zero =>
          intro s y u hs s0 vy y0
          have : s = 4 := by omega
          subst this
          refine ⟨u, (b_284_44).trans ?_⟩
          rw [itn (fun w => absurd w.1 (by decide))]
          rfl
        | succ j ih =>
          intro s y u hs s0 vy y0
          obtain ⟨u', h1⟩ := step s y u s0 (by omega) vy y0
          have nv : vld 60 (cif (okS N c s ∧ aV N to lg k (nbr c s) < 1000000) (min y (aV N to lg k (nbr c s) + 1 + 1000 * sFd N lg n (nbr c s))) y) ∧ 0 < cif (okS N c s ∧ aV N to lg k (nbr c s) < 1000000) (min y (aV N to lg k (nbr c s) + 1 + 1000 * sFd N lg n (nbr c s))) y := by
            by_cases q : okS N c s ∧ aV N to lg k (nbr c s) < 1000000
            · rw [cif_t q]
              have va := (aV_b (N := N) (to := to) (lg := lg) k (nbr c s) (by omega)).1
              have s01 := sFd_01 (N := N) (lg := lg) (n := n) (c := nbr c s)
              generalize aV N to lg k (nbr c s) = v0 at *
              generalize sFd N lg n (nbr c s) = f0 at *
              have va' := va.resolve_left (by omega)
              by_cases le : y ≤ v0 + 1 + 1000 * f0
              · rw [show min y (v0 + 1 + 1000 * f0) = y by omega]; exact ⟨vy, y0⟩
              · rw [show min y (v0 + 1 + 1000 * f0) = v0 + 1 + 1000 * f0 by omega]
                refine ⟨Or.inr ?_, by omega⟩
                rcases s01 with w | w <;> subst w <;> omega
            · rw [cif_f q]; exact ⟨vy, y0⟩
          obtain ⟨u'', h2⟩ := ih (s + 1) _ u' (by omega) (by omega) nv.1 nv.2
          exact ⟨u'', by rw [h1, h2, itr]⟩
      obtain ⟨u', h1⟩ := hv 4 0 1000000 u7 (by decide) (by decide) (Or.inl rfl) (by decide)
      exact ⟨4, u', h1⟩
theorem M_findRun (hr : Rng m) (h247 : m 247 = N) (b6 : 0 ≤ N 6 ∧ N 6 ≤ 8) (iO : ∀ p, 0 ≤ p → p < N 6 → 0 ≤ N (1050 + 4 * p) ∧ N (1050 + 4 * p) < 100) (h0 : 0 ≤ N 0) (h9 : N 0 ≤ 9999) (l0 : 1 ≤ lg) (l1 : lg ≤ 4) (t0 : 0 ≤ to) (t1 : to < 100) : ∃ m', Z e (d + 4) 284 0 [.ref 246, .int (iI to), .int (iI lg), .retAddr 0, .retAddr 0, .retAddr 0, .retAddr 0, .retAddr 0] [] m = rn m' ∧ tabM N to lg (fun _ _ => True) m' ∧ (∀ k, ¬ k = 260 → m' k = m k) ∧ Rng m' := by
  have wt : wr to = to := wr_of (by omega) (by omega)
  have inner : ∀ (n : Int), 0 ≤ n → n ≤ 60 → ∀ (j : Nat) (c : Int) (m1 : zMm) (u5 u6 u7 : Value), c + j = 100 → 0 ≤ c → Rng m1 → (∀ k, ¬ k = 260 → m1 k = m k) → tabM N to lg (fun n' c' => n < n' ∨ (n' = n ∧ c' < c)) m1 → ∃ m' u5' u6' u7', Z e (d + 4) 284 10 [.ref 246, .int (iI to), .int (iI lg), .int (iI n), .int (iI c), u5, u6, u7] [] m1 = Z e (d + 4) 284 3 [.ref 246, .int (iI to), .int (iI lg), .int (iI (n - 1)), .int (iI 100), u5', u6', u7'] [] m' ∧ tabM N to lg (fun n' _ => n - 1 < n') m' ∧ (∀ k, ¬ k = 260 → m' k = m k) ∧ Rng m' := by
    intro n n0 n1 j
    induction j with
    | zero =>
      intro c m1 u5 u6 u7 hj c0 r1 f1 T1
      have : c = 100 := by omega
      subst this
      refine ⟨m1, u5, u6, u7, (b_284_10).trans ?_, fun n' c' a b cc dd D => T1 n' c' a b cc dd (by omega), f1, r1⟩
      rw [itn (by decide)]
      rfl
    | succ j ih =>
      intro c m1 u5 u6 u7 hj c0 r1 f1 T1
      have e247 : m1 247 = N := by rw [f1 247 (by decide)]; exact h247
      have wc : wr c = c := wr_of (by omega) (by omega)
      have w10 : wr (10 + c) = 10 + c := wr_of (by omega) (by omega)
      have wN : wr (N (10 + c)) = N (10 + c) := by rw [← e247]; exact r1 _ _
      obtain ⟨x6, u7', h1⟩ := M_cell (e := e) (d := d) (m := m1) (m0 := m1) (N := N) (to := to) (lg := lg) (n := n) (c := c) (u7 := u7) r1 e247 b6 iO h0 h9 l0 l1 n0 n1 c0 (by omega) t0 t1 (fun n' c' a b cc dd D => T1 n' c' a b cc dd (Or.inl D))
      have va := (aV_b (N := N) (to := to) (lg := lg) (60 - n).toNat c (by omega)).1
      have wi : wr (100 * n + c) = 100 * n + c := wr_of (by omega) (by omega)
      have wv : wr (aV N to lg (60 - n).toNat c) = aV N to lg (60 - n).toNat c := by
        rcases va with w | w
        · rw [w]; rfl
        · exact wr_of (by omega) (by omega)
      obtain ⟨m', a, b, cc, p1, p2⟩ := ih (c + 1) (um m1 260 (100 * n + c) (aV N to lg (60 - n).toNat c)) (.int (iI (aV N to lg (60 - n).toNat c))) (.int (iI x6)) u7' (by omega) (by omega) (r1.um wv) (fun k hk => by rw [um_r hk]; exact f1 k hk) (fun n' c' a0 a1 b0 b1 D => by
        by_cases z : n' = n ∧ c' = c
        · rw [z.1, z.2, um_s]
        · rw [um_i (by omega)]
          exact T1 n' c' a0 a1 b0 b1 (by omega))
      refine ⟨m', a, b, cc, ?_, p2⟩
      rw [← p1]
      refine (b_284_10).trans ?_
      rw [wc, itp (by omega), wt, e247, w10, wN, ck_t (fun _ => by omega), h1, b_284_140, wi, ck_t (by omega)]
  have outer : ∀ (j : Nat) (n : Int) (m1 : zMm) (u4 u5 u6 u7 : Value), n + 1 = j → n ≤ 60 → Rng m1 → (∀ k, ¬ k = 260 → m1 k = m k) → tabM N to lg (fun n' _ => n < n') m1 → ∃ m', Z e (d + 4) 284 3 [.ref 246, .int (iI to), .int (iI lg), .int (iI n), u4, u5, u6, u7] [] m1 = rn m' ∧ tabM N to lg (fun _ _ => True) m' ∧ (∀ k, ¬ k = 260 → m' k = m k) ∧ Rng m' := by
    intro j
    induction j with
    | zero =>
      intro n m1 u4 u5 u6 u7 hj hn r1 f1 T1
      have : n = -1 := by omega
      subst this
      refine ⟨m1, (b_284_3).trans ?_, fun n' c' a b cc dd _ => T1 n' c' a b cc dd (by omega), f1, r1⟩
      rw [itn (by decide)]
    | succ j ih =>
      intro n m1 u4 u5 u6 u7 hj hn r1 f1 T1
      obtain ⟨m2, a, b, c, p1, p2, p3, p4⟩ := inner n (by omega) hn 100 0 m1 u5 u6 u7 (by decide) (by decide) r1 f1 (fun n' c' a b cc dd D => T1 n' c' a b cc dd (by omega))
      obtain ⟨m', q1, q2⟩ := ih (n - 1) m2 (.int (iI 100)) a b c (by omega) (by omega) p4 p3 p2
      refine ⟨m', ?_, q2⟩
      refine (b_284_3).trans ?_
      rw [wr_of (x := n) (by omega) (by omega), itp (by omega), p1]
      exact q1
  rw [b_284_0]
  exact outer 61 60 m _ _ _ _ (by decide) (by decide) hr (fun _ _ => rfl) (fun n' c' a b cc dd D => by omega)
end RU
