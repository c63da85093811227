/-! The run: the class's table. -/
def conv (v : Int) : Int := if v = 1000000 then 1048576 else 64 * (v / 1000) + v % 1000
def rch (w : Int → Int) (n c : Int) : Prop := ¬ w c = -3 ∧ w c ≤ n ∧ (n - w c) % 2 = 0
section RC
variable {e : List Int32 × Value} {d : Nat} {m : zMm} {N : Int → Int} {to lg fr : Int} {w : Int → Int}
theorem nbr_par {c s : Int} (c0 : 0 ≤ c) (c1 : c < 100) (h : ¬ nbr c s = -3) : ((nbr c s / 10 + nbr c s % 10) + (c / 10 + c % 10)) % 2 = 1 := by
  unfold nbr at *
  split at h
  · split at h
    · rename_i h1 h2; rw [if_pos h1, if_pos h2]; omega
    · exact absurd rfl h
  · rename_i h1
    rw [if_neg h1]
    split at h
    · rename_i h2
      rw [if_pos h2]
      split at h
      · rename_i h3; rw [if_pos h3]; omega
      · exact absurd rfl h
    · rename_i h2
      rw [if_neg h2]
      split at h
      · rename_i h3
        rw [if_pos h3]
        split at h
        · rename_i h4; rw [if_pos h4]; omega
        · exact absurd rfl h
      · rename_i h3
        rw [if_neg h3]
        split at h
        · rename_i h4; rw [if_pos h4]; omega
        · exact absurd rfl h
theorem way_par (hW : isWay (wall N) fr w) : ∀ (k : Nat) (c : Int), 0 ≤ c → c < 100 → w c = k → ((k : Int) + (c / 10 + c % 10) + (fr / 10 + fr % 10)) % 2 = 0 := by
  intro k
  induction k with
  | zero =>
    intro c c0 c1 hw
    have := (hW.2.1 c c0 c1).mp (by omega)
    rw [this.1]
    omega
  | succ k ih =>
    intro c c0 c1 hw
    obtain ⟨s, s0, s1, s2, s3⟩ := hW.2.2.2 c c0 c1 (by omega)
    have b := nbr_b c0 c1 s2
    have p := nbr_par c0 c1 s2
    have q := ih (nbr c s) b.1 b.2.1 (by omega)
    omega
theorem rch_nb {n c s : Int} (hW : isWay (wall N) fr w) (c0 : 0 ≤ c) (c1 : c < 100) (s0 : 0 ≤ s) (s1 : s < 4) (h : rch w n c) (ok : okS N c s) : rch w (n + 1) (nbr c s) := by
  have b := nbr_b c0 c1 ok.1
  have h3 := hW.2.2.1 c s (nbr c s) c0 c1 s0 s1 rfl ok.1 h.1 ok.2
  have wc := (hW.1 c c0 c1).resolve_left h.1
  have wn := (hW.1 _ b.1 b.2.1).resolve_left h3.1
  have p1 := way_par hW (w c).toNat c c0 c1 (by omega)
  have p2 := way_par hW (w (nbr c s)).toNat (nbr c s) b.1 b.2.1 (by omega)
  have p := nbr_par c0 c1 ok.1
  have hr2 := h.2.2
  refine ⟨h3.1, by have := h.2.1; omega, ?_⟩
  rw [Int.toNat_of_nonneg wc.1] at p1
  rw [Int.toNat_of_nonneg wn.1] at p2
  omega
theorem conv_b {k v : Int} (hk : k ≤ 60) (h : vld k v) : 0 ≤ conv v ∧ conv v ≤ 1048576 ∧ (v < 1000000 ∨ v = 1000000) ∧ (v < 1000000 → conv v ≤ 3900) := by
  unfold conv
  rcases h with z | z
  · rw [if_pos z]; omega
  · have : ¬ v = 1000000 := by omega
    rw [if_neg this]; omega
theorem conv_lt {k v u : Int} (hk : k ≤ 60) (h : vld k v) (h' : vld k u) : (conv v < conv u ↔ v < u) := by
  unfold conv
  rcases h with z | z
  · rw [if_pos z]
    rcases h' with y | y
    · rw [if_pos y]; omega
    · rw [if_neg (by omega)]; omega
  · rw [if_neg (show ¬ v = 1000000 by omega)]
    rcases h' with y | y
    · rw [if_pos y]; omega
    · rw [if_neg (show ¬ u = 1000000 by omega)]; omega
theorem conv_add {k v f : Int} (hk : k ≤ 59) (h : vld k v) (hv : v < 1000000) (hf : f = 0 ∨ f = 1) : 1 + 64 * f + conv v = conv (v + 1 + 1000 * f) ∧ vld (k + 1) (v + 1 + 1000 * f) ∧ v + 1 + 1000 * f < 1000000 := by
  have z := h.resolve_left (by omega)
  unfold conv
  rw [if_neg (show ¬ v = 1000000 by omega), if_neg (show ¬ v + 1 + 1000 * f = 1000000 by rcases hf with y | y <;> subst y <;> omega)]
  refine ⟨?_, Or.inr ?_, ?_⟩ <;> rcases hf with y | y <;> subst y <;> omega
noncomputable def pv (N : Int → Int) (to lg : Int) (w : Int → Int) (n c : Int) : Int := cif (rch w n c) (conv (aV N to lg (60 - n).toNat c)) 1048576
def tabC (N : Int → Int) (to lg : Int) (w : Int → Int) (D : Int → Int → Prop) (m : zMm) : Prop := ∀ n c, 0 ≤ n → n ≤ 60 → 0 ≤ c → c < 100 → D n c → m 227 (n * 100 + c) = pv N to lg w n c
/-- the clocks at which a cell is seen -/
def CK (N : Int → Int) (m : zMm) : Prop := ∀ c h, 0 ≤ c → c < 100 → 0 ≤ h → h < 24 → jand (jshr (m 229 c) h) 1 = bi (¬ seeS N c h = 0)
theorem pv_b {n c : Int} (n0 : 0 ≤ n) (n1 : n ≤ 60) : 0 ≤ pv N to lg w n c ∧ pv N to lg w n c ≤ 1048576 := by
  unfold pv
  have := conv_b (k := 60) (by decide) (show vld 60 (aV N to lg (60 - n).toNat c) from by
    have := (aV_b (N := N) (to := to) (lg := lg) (60 - n).toNat c (by omega)).1
    unfold vld at *
    omega)
  by_cases z : rch w n c
  · rw [cif_t z]; omega
  · rw [cif_f z]; omega
/-- what a step to a neighbour costs the class -/
noncomputable def prC (N : Int → Int) (to lg : Int) (w : Int → Int) (n x : Int) : Int := 1 + 64 * sFd N lg n x + pv N to lg w (n + 1) x
theorem prC_ok {n c s : Int} (hW : isWay (wall N) fr w) (n0 : 0 ≤ n) (n1 : n < 60) (c0 : 0 ≤ c) (c1 : c < 100) (s0 : 0 ≤ s) (s1 : s < 4) (h : rch w n c) (hn : ¬ nbr c s = -3) : (okS N c s ∧ aV N to lg (59 - n).toNat (nbr c s) < 1000000 → prC N to lg w n (nbr c s) = conv (aV N to lg (59 - n).toNat (nbr c s) + 1 + 1000 * sFd N lg n (nbr c s))) ∧ (¬ (okS N c s ∧ aV N to lg (59 - n).toNat (nbr c s) < 1000000) → 1048576 < prC N to lg w n (nbr c s)) ∧ prC N to lg w n (nbr c s) ≤ 1048700 ∧ 0 < prC N to lg w n (nbr c s) := by
  have s01 := sFd_01 (N := N) (lg := lg) (n := n) (c := nbr c s)
  have pb := pv_b (N := N) (to := to) (lg := lg) (w := w) (n := n + 1) (c := nbr c s) (by omega) (by omega)
  have ek : (60 - (n + 1)).toNat = (59 - n).toNat := by omega
  have va := (aV_b (N := N) (to := to) (lg := lg) (59 - n).toNat (nbr c s) (by omega)).1
  refine ⟨fun q => ?_, fun q => ?_, ?_, ?_⟩
  · have r := rch_nb hW c0 c1 s0 s1 h q.1
    unfold prC pv
    rw [cif_t r, ek]
    exact (conv_add (k := 59) (by decide) (by unfold vld at *; omega) q.2 s01).1
  · unfold prC pv
    by_cases r : rch w (n + 1) (nbr c s)
    · have b := nbr_b c0 c1 hn
      have nw := ((hW.1 _ b.1 b.2.1).resolve_left r.1).2.2
      have vm : aV N to lg (59 - n).toNat (nbr c s) = 1000000 := by
        rcases va with z | z
        · exact z
        · exact absurd ⟨⟨hn, nw⟩, by omega⟩ q
      rw [cif_t r, ek, vm]
      unfold conv
      rw [if_pos rfl]
      omega
    · rw [cif_f r]; omega
  · unfold prC; omega
  · unfold prC; omega
theorem C_least {n c : Int} (hr : Rng m) (hW : isWay (wall N) fr w) (hB : beside m) (ck : CK N m) (n0 : 0 ≤ n) (n1 : n < 60) (c0 : 0 ≤ c) (c1 : c < 100) (T : tabC N to lg w (fun n' _ => n < n') m) (h : rch w n c) (hc : ¬ c = to) : Z e (d + 1) 46 0 [.ref 226, .int (iI n), .int (iI c), .int (iI ((N 0 + n / lg + 1) % 24)), .retAddr 0, .retAddr 0, .retAddr 0, .retAddr 0] [] m = ri (conv (aV N to lg (60 - n).toNat c)) m := by
  obtain ⟨k, hk⟩ : ∃ k : Nat, (60 - n).toNat = k + 1 := ⟨(60 - n).toNat - 1, by omega⟩
  have hk1 : (59 - n).toNat = k := by omega
  have hk2 : (59 - (k : Int)) = n := by omega
  rw [hk, aV, cif_f (fun z => hc z.1), hk2]
  have loop : ∀ (j : Nat) (s x : Int) (u6 u7 : Value), s + j = 4 → 0 ≤ s → vld 60 x → Z e (d + 1) 46 9 [.ref 226, .int (iI n), .int (iI c), .int (iI ((N 0 + n / lg + 1) % 24)), .int (iI (conv x)), .int (iI (4 * c + s)), u6, u7] [] m = ri (conv (itr (fun s x => cif (okS N c s ∧ aV N to lg k (nbr c s) < 1000000) (min x (aV N to lg k (nbr c s) + 1 + 1000 * sFd N lg n (nbr c s))) x) s j x)) m := by
    intro j
    induction j with
    | zero =>
      intro s x u6 u7 hs s0 vx
      refine (b_46_9).trans ?_
      rw [wr_of (x := 4 * c + s) (by omega) (by omega), wr_of (x := 4 * c + 4) (by omega) (by omega), itn (by omega)]
      rfl
    | succ j ih =>
      intro s x u6 u7 hs s0 vx
      have bs := hB c s c0 c1 s0 (by omega)
      have xb := conv_b (k := 60) (by decide) vx
      have wx : wr (conv x) = conv x := wr_of (by omega) (by omega)
      have st : Z e (d + 1) 46 9 [.ref 226, .int (iI n), .int (iI c), .int (iI ((N 0 + n / lg + 1) % 24)), .int (iI (conv x)), .int (iI (4 * c + s)), u6, u7] [] m = _ := b_46_9
      rw [wr_of (x := 4 * c + s) (by omega) (by omega), wr_of (x := 4 * c + 4) (by omega) (by omega), itp (by omega), ck_t (by omega), bs, show 4 * c + s + 1 = 4 * c + (s + 1) by omega, wx] at st
      rw [itr]
      by_cases z : nbr c s = -3
      · rw [z, ck_t (fun y => absurd (show wr (-3) = -3 from rfl) y), itp (show wr (-3) = -3 from rfl), itn (show ¬ wr 1048576 < conv x by rw [show wr 1048576 = 1048576 from rfl]; omega)] at st
        rw [cif_f (fun y => y.1.1 z)]
        rw [st]
        exact ih (s + 1) x _ _ (by omega) (by omega) vx
      · have b := nbr_b c0 c1 z
        have wn : wr (nbr c s) = nbr c s := wr_of (by omega) (by omega)
        have ti := T (n + 1) (nbr c s) (by omega) (by omega) b.1 b.2.1 (by omega)
        have wi : wr ((n + 1) * 100 + nbr c s) = (n + 1) * 100 + nbr c s := wr_of (by omega) (by omega)
        have cks := ck (nbr c s) ((N 0 + n / lg + 1) % 24) b.1 b.2.1 (by omega) (by omega)
        have po := prC_ok (N := N) (to := to) (lg := lg) (w := w) hW n0 n1 c0 c1 s0 (by omega) h z
        rw [hk1] at po
        have ep : 1 + 64 * jand (jshr (m 229 (nbr c s)) ((N 0 + n / lg + 1) % 24)) 1 + m 227 ((n + 1) * 100 + nbr c s) = prC N to lg w n (nbr c s) := by rw [cks, ti]; rfl
        rw [wn, wi, ck_t (fun _ => ⟨⟨b.1, b.2.1⟩, by omega⟩), itn z, ep, wr_of (x := prC N to lg w n (nbr c s)) (by omega) (by omega)] at st
        by_cases q : okS N c s ∧ aV N to lg k (nbr c s) < 1000000
        · rw [cif_t q]
          have va := (aV_b (N := N) (to := to) (lg := lg) k (nbr c s) (by omega)).1
          have s01 := sFd_01 (N := N) (lg := lg) (n := n) (c := nbr c s)
          have ca := conv_add (k := 59) (v := aV N to lg k (nbr c s)) (f := sFd N lg n (nbr c s)) (by decide) (by unfold vld at *; omega) q.2 s01
          have pe := po.1 q
          rw [pe] at st
          generalize aV N to lg k (nbr c s) + 1 + 1000 * sFd N lg n (nbr c s) = v1 at *
          have cl := conv_lt (k := 60) (by decide) ca.2.1 vx
          by_cases lt : v1 < x
          · rw [itp (cl.mpr lt)] at st
            rw [show min x v1 = v1 by omega, st]
            exact ih (s + 1) v1 _ _ (by omega) (by omega) ca.2.1
          · rw [itn (fun y => lt (cl.mp y))] at st
            rw [show min x v1 = x by omega, st]
            exact ih (s + 1) x _ _ (by omega) (by omega) vx
        · rw [cif_f q]
          have := po.2.1 q
          rw [itn (by omega)] at st
          rw [st]
          exact ih (s + 1) x _ _ (by omega) (by omega) vx
  have h0 := loop 4 0 1000000 (.retAddr 0) (.retAddr 0) (by decide) (by decide) (Or.inl rfl)
  rw [Int.add_zero, show conv 1000000 = 1048576 from rfl] at h0
  rw [b_46_0]
  exact h0
theorem C_priceAll {n : Int} {m0 : zMm} (hr : Rng m) (hW : isWay (wall N) fr (m 228)) (hB : beside m) (ck : CK N m) (n0 : 0 ≤ n) (n1 : n ≤ 60) (t0 : 0 ≤ to) (t1 : to < 100) (T : tabC N to lg (m 228) (fun n' _ => n < n') m) : ∃ m', Z e (d + 2) 45 0 [.ref 226, .int (iI n), .int (iI to), .int (iI ((N 0 + n / lg + 1) % 24)), .retAddr 0, .retAddr 0, .retAddr 0] [] m = rn m' ∧ tabC N to lg (m 228) (fun n' _ => n - 1 < n') m' ∧ (∀ k, ¬ k = 227 → m' k = m k) ∧ Rng m' := by
  have wn : wr n = n := wr_of (by omega) (by omega)
  have wt : wr to = to := wr_of (by omega) (by omega)
  have loop : ∀ (j : Nat) (c : Int) (m1 : zMm) (u5 u6 : Value), c + j = 100 → 0 ≤ c → Rng m1 → (∀ k, ¬ k = 227 → m1 k = m k) → tabC N to lg (m 228) (fun n' c' => n < n' ∨ (n' = n ∧ c' < c)) m1 → ∃ m', Z e (d + 2) 45 3 [.ref 226, .int (iI n), .int (iI to), .int (iI ((N 0 + n / lg + 1) % 24)), .int (iI c), u5, u6] [] m1 = rn m' ∧ tabC N to lg (m 228) (fun n' _ => n - 1 < n') m' ∧ (∀ k, ¬ k = 227 → m' k = m k) ∧ Rng m' := by
    intro j
    induction j with
    | zero =>
      intro c m1 u5 u6 hj c0 r1 f1 T1
      have : c = 100 := by omega
      subst this
      refine ⟨m1, (b_45_3).trans ?_, fun n' c' a b cc dd D => T1 n' c' a b cc dd (by omega), f1, r1⟩
      rw [itn (by decide)]
    | succ j ih =>
      intro c m1 u5 u6 hj c0 r1 f1 T1
      have wc : wr c = c := wr_of (by omega) (by omega)
      have e228 := f1 228 (by decide)
      have wb := hW.1 c c0 (by omega)
      have ww : wr (m 228 c) = m 228 c := hr _ _
      have jr : jrem (n - m 228 c) 2 = 0 ↔ (n - m 228 c) % 2 = 0 := by
        unfold jrem
        rw [wr_of (by omega) (by omega), show wr 2 = 2 from rfl]
        constructor
        · intro z; have := Int.tmod_add_mul_tdiv (n - m 228 c) 2; omega
        · intro z
          have hd : (2 : Int) ∣ (n - m 228 c) := Int.dvd_of_emod_eq_zero z
          exact Int.tmod_eq_zero_of_dvd hd
      have wj : wr (jrem (n - m 228 c) 2) = jrem (n - m 228 c) 2 := by
        unfold jrem
        have := Int.tmod_lt_of_pos (wr (n - m 228 c)) (show (0 : Int) < 2 by decide)
        have h2 := Int.lt_tmod_of_pos (wr (n - m 228 c)) (show (0 : Int) < 2 by decide)
        rw [show wr 2 = 2 from rfl]
        exact wr_of (by omega) (by omega)
      have rc : ((¬ m 228 c = -3) ∧ ((m 228 c ≤ n) ∧ (jrem (n - m 228 c) 2 = 0))) ↔ rch (m 228) n c := and_congr Iff.rfl (and_congr Iff.rfl jr)
      have ckp : (¬ m 228 c = -3) → ((0 ≤ c ∧ c < 100) ∧ (m 228 c ≤ n → (0 ≤ c ∧ c < 100))) := fun _ => ⟨by omega, fun _ => by omega⟩
      have st : Z e (d + 2) 45 3 [.ref 226, .int (iI n), .int (iI to), .int (iI ((N 0 + n / lg + 1) % 24)), .int (iI c), u5, u6] [] m1 = _ := b_45_3
      rw [wc, itp (by omega), e228, ww, wn, wt, wj, ck_t (by omega), ck_t ckp] at st
      have wi : wr (n * 100 + c) = n * 100 + c := wr_of (by omega) (by omega)
      have pb := pv_b (N := N) (to := to) (lg := lg) (w := m 228) (n := n) (c := c) n0 n1
      have fin : ∀ (u5 : Value), ∃ m', Z e (d + 2) 45 96 [.ref 226, .int (iI n), .int (iI to), .int (iI ((N 0 + n / lg + 1) % 24)), .int (iI c), u5, .int (iI (pv N to lg (m 228) n c))] [] m1 = rn m' ∧ tabC N to lg (m 228) (fun n' _ => n - 1 < n') m' ∧ (∀ k, ¬ k = 227 → m' k = m k) ∧ Rng m' := by
        intro u5
        obtain ⟨m', p1, p2⟩ := ih (c + 1) (um m1 227 (n * 100 + c) (pv N to lg (m 228) n c)) u5 (.int (iI (pv N to lg (m 228) n c))) (by omega) (by omega) (r1.um (wr_of (by omega) (by omega))) (fun k hk => by rw [um_r hk]; exact f1 k hk) (fun n' c' a0 a1 b0 b1 D => by
          by_cases z : n' = n ∧ c' = c
          · rw [z.1, z.2, um_s]
          · rw [um_i (by omega)]
            exact T1 n' c' a0 a1 b0 b1 (by omega))
        refine ⟨m', ?_, p2⟩
        rw [b_45_96, wi, ck_t (by omega)]
        exact p1
      by_cases r : rch (m 228) n c
      · have nw := (wb.resolve_left r.1).2.2
        by_cases zc : c = to
        · have pe : pv N to lg (m 228) n c = 0 := by
            unfold pv
            rw [cif_t r, (aV_b (N := N) (to := to) (lg := lg) (60 - n).toNat c (by omega)).2.mpr ⟨zc, nw⟩]
            rfl
          rw [itp ⟨rc.mpr r, zc⟩] at st
          have ff := fin
          rw [pe] at ff
          obtain ⟨m', p1, p2⟩ := ff (.int (iI (if (¬ m 228 c = -3) ∧ ((m 228 c ≤ n) ∧ (jrem (n - m 228 c) 2 = 0)) then 1 else 0)))
          exact ⟨m', st.trans p1, p2⟩
        · rw [itn (fun y => zc y.2)] at st
          by_cases z6 : n < 60
          · have le := C_least (e := e) (d := d) (m := m1) (N := N) (to := to) (lg := lg) (fr := fr) (w := m 228) (n := n) (c := c) r1 hW (beside_cg (f1 192 (by decide)) hB) (fun c' h' a b cc dd => by rw [f1 229 (by decide)]; exact ck c' h' a b cc dd) n0 z6 c0 (by omega) (fun n' c' a b cc dd D => T1 n' c' a b cc dd (Or.inl D)) r zc
            have pe : pv N to lg (m 228) n c = conv (aV N to lg (60 - n).toNat c) := by unfold pv; rw [cif_t r]
            rw [itp ⟨rc.mpr r, z6⟩, le, ri_k, b_45_94 cat_i, ← pe] at st
            obtain ⟨m', p1, p2⟩ := fin (.int (iI (if (¬ m 228 c = -3) ∧ ((m 228 c ≤ n) ∧ (jrem (n - m 228 c) 2 = 0)) then 1 else 0)))
            exact ⟨m', st.trans p1, p2⟩
          · have e60 : n = 60 := by omega
            have pe : pv N to lg (m 228) n c = 1048576 := by
              unfold pv
              rw [cif_t r, e60, show (60 - 60 : Int).toNat = 0 from rfl, aV, cif_f (fun y => zc y.1)]
              rfl
            rw [itn (fun y => z6 y.2)] at st
            have ff := fin
            rw [pe] at ff
            obtain ⟨m', p1, p2⟩ := ff (.int (iI (if (¬ m 228 c = -3) ∧ ((m 228 c ≤ n) ∧ (jrem (n - m 228 c) 2 = 0)) then 1 else 0)))
            exact ⟨m', st.trans p1, p2⟩
      · have pe : pv N to lg (m 228) n c = 1048576 := by unfold pv; rw [cif_f r]
        rw [itn (fun y => r (rc.mp y.1)), itn (fun y => r (rc.mp y.1))] at st
        have ff := fin
        rw [pe] at ff
        obtain ⟨m', p1, p2⟩ := ff (.int (iI (if (¬ m 228 c = -3) ∧ ((m 228 c ≤ n) ∧ (jrem (n - m 228 c) 2 = 0)) then 1 else 0)))
        exact ⟨m', st.trans p1, p2⟩
  rw [b_45_0]
  exact loop 100 0 m _ _ (by decide) (by decide) hr (fun _ _ => rfl) (fun n' c' a b cc dd D => T n' c' a b cc dd (by omega))
end RC
