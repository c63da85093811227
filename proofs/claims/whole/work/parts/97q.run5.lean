/-! The run: is there one. -/
section RZ
variable {e : List Int32 × Value} {d : Nat} {m : zMm} {N : Int → Int} {to lg fr : Int} {w : Int → Int}
theorem PI_all (hW : isWay (wall N) fr w) (f0 : 0 ≤ fr) (f1 : fr < 100) (hw : ¬ wall N fr) (hv : aV N to lg 60 fr < 1000000) : ∀ n : Nat, (n : Int) ≤ aV N to lg 60 fr % 1000 → PI N to lg fr w n := by
  intro n
  induction n with
  | zero => exact fun _ => PI.zero hW f0 f1 hw hv
  | succ n ih => exact fun h => ((ih (by omega)).step hW (by omega)).1
theorem aV_nb {k : Nat} {c s : Int} (hk : k ≤ 59) (s0 : 0 ≤ s) (s1 : s < 4) (ok : okS N c s) (hv : aV N to lg k (nbr c s) < 1000000) : aV N to lg (k + 1) c < 1000000 := by
  rw [aV]
  by_cases z : c = to ∧ ¬ wall N c
  · rw [cif_t z]; decide
  · rw [cif_f z]
    obtain ⟨f, hf⟩ : ∃ f : Int → Int → Int, f = fun s x => cif (okS N c s ∧ aV N to lg k (nbr c s) < 1000000) (min x (aV N to lg k (nbr c s) + 1 + 1000 * sFd N lg (59 - k) (nbr c s))) x := ⟨_, rfl⟩
    have le : ∀ (s' x : Int), f s' x ≤ x := fun s' x => by
      rw [hf]
      show cif _ _ _ ≤ x
      by_cases q : okS N c s' ∧ aV N to lg k (nbr c s') < 1000000
      · rw [cif_t q]; omega
      · rw [cif_f q]; omega
    have lt : ∀ x, f s x < 1000000 := fun x => by
      rw [hf]
      show cif _ _ _ < 1000000
      rw [cif_t ⟨ok, hv⟩]
      have v := (aV_b (N := N) (to := to) (lg := lg) k (nbr c s) (by omega)).1.resolve_left (by omega)
      have s01 := sFd_01 (N := N) (lg := lg) (n := 59 - k) (c := nbr c s)
      omega
    rw [← hf]
    show f 3 (f 2 (f 1 (f 0 1000000))) < 1000000
    have l3 := le 3 (f 2 (f 1 (f 0 1000000)))
    have l2 := le 2 (f 1 (f 0 1000000))
    have l1 := le 1 (f 0 1000000)
    have q : s = 0 ∨ s = 1 ∨ s = 2 ∨ s = 3 := by omega
    rcases q with y | y | y | y <;> subst y
    · have := lt 1000000; omega
    · have := lt (f 0 1000000); omega
    · have := lt (f 1 (f 0 1000000)); omega
    · exact lt _
theorem aV_back (hW : isWay (wall N) fr w) (f0 : 0 ≤ fr) (f1 : fr < 100) : ∀ (k : Nat) (c : Int), k ≤ 60 → 0 ≤ c → c < 100 → w c = k → aV N to lg (60 - k) c < 1000000 → aV N to lg 60 fr < 1000000 ∧ ¬ wall N fr := by
  intro k
  induction k with
  | zero =>
    intro c _ c0 c1 hw hv
    have q := (hW.2.1 c c0 c1).mp hw
    rw [← q.1]
    exact ⟨hv, by rw [q.1]; exact q.2⟩
  | succ k ih =>
    intro c hk c0 c1 hw hv
    obtain ⟨s, s0, s1, h1, h2⟩ := hW.2.2.2 c c0 c1 (by omega)
    have b := nbr_b c0 c1 h1
    obtain ⟨s', g0, g1, g2⟩ := nbr_s c0 c1 s0 s1 h1
    have nw : ¬ wall N c := ((hW.1 c c0 c1).resolve_left (by omega)).2.2
    refine ih (nbr c s) (by omega) b.1 b.2.1 (by omega) ?_
    rw [show 60 - k = (60 - (k + 1)) + 1 by omega]
    refine aV_nb (s := s') (by omega) g0 g1 ⟨by omega, by rw [g2]; exact nw⟩ (by rw [g2]; exact hv)
theorem run_iff (hW : isWay (wall N) fr w) (f0 : 0 ≤ fr) (f1 : fr < 100) (t0 : 0 ≤ to) (t1 : to < 100) : (aV N to lg 60 fr < 1000000 ∧ ¬ wall N fr) ↔ ¬ (w to = -3 ∨ 60 < w to) := by
  constructor
  · intro h
    have b := (aV_b (N := N) (to := to) (lg := lg) 60 fr (by decide)).1.resolve_left (by omega)
    have P := PI_all hW f0 f1 h.2 h.1 (aV N to lg 60 fr % 1000).toNat (by omega)
    have at1 := P.at_to.mpr (by omega)
    have r := P.2.2.2.1
    rw [at1] at r
    have r1 := r.1
    have r2 := r.2.1
    omega
  · intro h
    have q := (hW.1 to t0 t1).resolve_left (by omega)
    refine aV_back hW f0 f1 (w to).toNat to (by omega) t0 t1 (by omega) ?_
    rw [(aV_b (N := N) (to := to) (lg := lg) (60 - (w to).toNat) to (by omega)).2.mpr ⟨rfl, q.2.2⟩]
    decide
theorem C_clks (iN : cNum m (m 247)) (iO : cPos m (m 247)) {x1 x2 x3 : Int} : ∀ (j : Nat) (c : Int) (m1 : zMm), c + j = 100 → 0 ≤ c → Rng m1 → (∀ k, ¬ k = 229 → m1 k = m k) → (∀ c' h, 0 ≤ c' → c' < c → 0 ≤ h → h < 24 → jand (jshr (m1 229 c') h) 1 = bi (¬ seeS (m 247) c' h = 0)) → ∃ m', Z e (d + 4) 43 46 [.ref 226, .int (iI x1), .int (iI x2), .int (iI x3), .int (iI c)] [] m1 = Z e (d + 4) 43 79 [.ref 226, .int (iI x1), .int (iI x2), .int (iI x3), .int (iI 60)] [] m' ∧ CK (m 247) m' ∧ (∀ k, ¬ k = 229 → m' k = m k) ∧ Rng m' := by
  intro j
  have bN := iN
  unfold cNum at bN
  have b6 : 0 ≤ m 247 6 ∧ m 247 6 ≤ 8 := by omega
  induction j with
  | zero =>
    intro c m1 hj c0 r1 f1 q
    refine ⟨m1, (b_43_46).trans ?_, fun c' h a b cc dd => q c' h a (by omega) cc dd, f1, r1⟩
    rw [wr_of (x := c) (by omega) (by omega), itn (by omega)]
  | succ j ih =>
    intro c m1 hj c0 r1 f1 q
    have iN1 : cNum m1 (m1 247) := by
      unfold cNum at iN ⊢
      rw [f1 247 (by decide), f1 1 (by decide), f1 4 (by decide), f1 6 (by decide), f1 8 (by decide), f1 10 (by decide), f1 12 (by decide), f1 14 (by decide), f1 16 (by decide)]
      exact iN
    have iO1 : cPos m1 (m1 247) := by
      rw [f1 247 (by decide)]
      intro q q0 q1
      have := iO q q0 q1
      unfold oRow at this ⊢
      rw [f1 15 (by decide)]
      exact this
    obtain ⟨K, k1, k2, k3⟩ := P_clocks (e := e) (d := d) (m := m1) (c := c) r1 iN1 iO1 c0 (by omega)
    obtain ⟨m', p1, p2⟩ := ih (c + 1) (um m1 229 c K) (by omega) (by omega) (r1.um (wr_of (by omega) (by omega))) (fun k hk => by rw [um_r hk]; exact f1 k hk) (fun c' h a b cc dd => by
      by_cases z : c' = c
      · subst z
        rw [um_s, jbit k2.1 (by omega) cc (by omega)]
        refine bi_cg ?_
        rw [k3 h cc dd, f1 247 (by decide)]
        exact (seen_S b6).symm
      · rw [um_i (by omega)]
        exact q c' h a (by omega) cc dd)
    refine ⟨m', ?_, p2⟩
    rw [← p1]
    refine (b_43_46).trans ?_
    rw [wr_of (x := c) (by omega) (by omega), itp (by omega), k1, ri_k, b_43_68, wr_of (x := c) (by omega) (by omega), ck_t (by omega)]
theorem C_prs (hW : isWay (wall N) fr (m 228)) (hB : beside m) (ck : CK N m) (e1 : m 1 0 = N 0) (h0 : 0 ≤ N 0) (h9 : N 0 ≤ 9999) (l0 : 1 ≤ lg) (l1 : lg ≤ 4) (t0 : 0 ≤ to) (t1 : to < 100) {x1 : Int} : ∀ (j : Nat) (n : Int) (m1 : zMm), n + 1 = j → n ≤ 60 → Rng m1 → (∀ k, ¬ k = 227 → m1 k = m k) → tabC N to lg (m 228) (fun n' _ => n < n') m1 → ∃ m', Z e (d + 4) 43 79 [.ref 226, .int (iI x1), .int (iI to), .int (iI lg), .int (iI n)] [] m1 = Z e (d + 4) 43 104 [.ref 226, .int (iI x1), .int (iI to), .int (iI lg), .int (iI (-1))] [] m' ∧ tabC N to lg (m 228) (fun _ _ => True) m' ∧ (∀ k, ¬ k = 227 → m' k = m k) ∧ Rng m' := by
  intro j
  have wl : wr lg = lg := wr_of (by omega) (by omega)
  induction j with
  | zero =>
    intro n m1 hj n1 r1 f1 q
    have hn : n = -1 := by omega
    subst hn
    refine ⟨m1, (b_43_79).trans ?_, fun n' c' a b cc dd _ => q n' c' a b cc dd (by show -1 < n'; omega), f1, r1⟩
    rw [wr_of (x := -1) (by omega) (by omega), itn (by omega)]
  | succ j ih =>
    intro n m1 hj n1 r1 f1 q
    have n0 : 0 ≤ n := by omega
    have jd : jdiv n lg = n / lg := jdiv_n n0 (by omega) (by omega) (by omega)
    have nb : 0 ≤ n / lg ∧ n / lg ≤ 60 := ⟨Int.ediv_nonneg n0 (by omega), Int.le_trans (Int.ediv_le_self _ n0) n1⟩
    have jr : jrem (N 0 + n / lg + 1) 24 = (N 0 + n / lg + 1) % 24 := jrem_n (by omega) (by omega) (by decide) (by decide)
    obtain ⟨m2, a1, a2, a3, a4⟩ := C_priceAll (e := e) (d := d + 1) (m := m1) (N := N) (to := to) (lg := lg) (fr := fr) (n := n) (m0 := m1) r1 (by rw [f1 228 (by decide)]; exact hW) (beside_cg (f1 192 (by decide)) hB) (fun c' h' a b cc dd => by rw [f1 229 (by decide)]; exact ck c' h' a b cc dd) n0 n1 t0 t1 (by rw [f1 228 (by decide)]; exact q)
    rw [f1 228 (by decide)] at a2
    obtain ⟨m', p1, p2⟩ := ih (n - 1) m2 (by omega) (by omega) a4 (fun k hk => by rw [a3 k hk]; exact f1 k hk) a2
    refine ⟨m', ?_, p2⟩
    rw [← p1]
    refine (b_43_79).trans ?_
    rw [wr_of (x := n) (by omega) (by omega), itp n0, wl, ck_t (by omega), f1 1 (by decide), e1, jd, jr, a1, rn_k, b_43_98]
    rfl
end RZ
