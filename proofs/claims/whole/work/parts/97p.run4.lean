/-! The run: its rows. -/
section RR
variable {e : List Int32 × Value} {d : Nat} {m : zMm} {N : Int → Int} {to lg fr : Int} {w : Int → Int}
/-- the first n rows -/
def rwC (N : Int → Int) (to lg fr : Int) (n : Nat) (k : Nat) (m : zMm) : Prop := ∀ i : Nat, i < n → m k ((i : Int) * 2 + 0) = pcS N to lg fr (i + 1) ∧ m k ((i : Int) * 2 + 1) = sFd N lg i (pcS N to lg fr (i + 1))
theorem C_rows (hr : Rng m) (hW : isWay (wall N) fr w) (hB : beside m) (ck : CK N m) (T : tabC N to lg w (fun _ _ => True) m) (e1 : m 1 0 = N 0) (h0 : 0 ≤ N 0) (h9 : N 0 ≤ 9999) (l0 : 1 ≤ lg) (l1 : lg ≤ 4) (t0 : 0 ≤ to) (t1 : to < 100) : ∀ (j : Nat) (n : Nat) (m1 : zMm) (u1 u6 u7 : Value), (n : Int) + j = aV N to lg 60 fr % 1000 → PI N to lg fr w n → Rng m1 → m1 232 3 = n → rwC N to lg fr n 233 m1 → (∀ k, ¬ k = 232 → ¬ k = 233 → m1 k = m k) → ∃ m' u4 u5 u6' u7', Z e (d + 2) 48 14 [.ref 226, u1, .int (iI to), .int (iI lg), .int (iI (pcS N to lg fr n)), .int (iI (n : Int)), u6, u7] [] m1 = Z e (d + 2) 48 97 [.ref 226, u1, .int (iI to), .int (iI lg), u4, u5, u6', u7'] [] m' ∧ m' 232 3 = aV N to lg 60 fr % 1000 ∧ rwC N to lg fr (aV N to lg 60 fr % 1000).toNat 233 m' ∧ (∀ k, ¬ k = 232 → ¬ k = 233 → m' k = m k) ∧ Rng m' := by
  intro j
  have wt : wr to = to := wr_of (by omega) (by omega)
  have wl : wr lg = lg := wr_of (by omega) (by omega)
  induction j with
  | zero =>
    intro n m1 u1 u6 u7 hj hP r1 c1 rw1 f1
    have at1 := hP.at_to.mpr (by omega)
    refine ⟨m1, .int (iI (pcS N to lg fr n)), .int (iI (n : Int)), u6, u7, (b_48_14).trans ?_, by omega, by rw [show (aV N to lg 60 fr % 1000).toNat = n by omega]; exact rw1, f1, r1⟩
    rw [at1, wt, itn (fun y => y.2 rfl)]
  | succ j ih =>
    intro n m1 u1 u6 u7 hj hP r1 c1 rw1 f1
    have hn : (n : Int) < aV N to lg 60 fr % 1000 := by omega
    have nt : ¬ pcS N to lg fr n = to := fun z => by have := hP.at_to.mp z; omega
    have P2 := hP.step hW hn
    have n60 := P2.2.1
    have nx := C_nextP (e := e) (d := d) (m := m1) (N := N) (to := to) (lg := lg) (fr := fr) (w := w) (n := n) r1 hW (beside_cg (f1 192 (by decide) (by decide)) hB) (fun c' h' a b cc dd => by rw [f1 229 (by decide) (by decide)]; exact ck c' h' a b cc dd) (fun n' c' a b cc dd D => by rw [f1 227 (by decide) (by decide)]; exact T n' c' a b cc dd D) hP hn
    have pb := hP.2.1
    have pb2 := P2.1.2.1
    have jd : jdiv (n : Int) lg = (n : Int) / lg := jdiv_n (by omega) (by omega) (by omega) (by omega)
    have nb : 0 ≤ (n : Int) / lg ∧ (n : Int) / lg ≤ 60 := ⟨Int.ediv_nonneg (by omega) (by omega), Int.le_trans (Int.ediv_le_self _ (by omega)) (by omega)⟩
    have jr : jrem (N 0 + (n : Int) / lg + 1) 24 = (N 0 + (n : Int) / lg + 1) % 24 := jrem_n (by omega) (by omega) (by decide) (by decide)
    have cks := ck (pcS N to lg fr (n + 1)) ((N 0 + (n : Int) / lg + 1) % 24) pb2.1 pb2.2 (by omega) (by omega)
    have s01 := sFd_01 (N := N) (lg := lg) (n := n) (c := pcS N to lg fr (n + 1))
    have k0 : (0 : Int) ≤ n := by omega
    have k60 : (n : Int) < 60 := by omega
    have ad := add_232 (e := e) (d := d + 1) (m := m1) (by omega) (by omega)
    rw [c1] at ad
    have s1 := set_232 (e := e) (d := d + 1) (m := um (uz m1 233 ((n : Int) * 2) 2) 232 3 ((n : Int) + 1)) (i := (n : Int)) (j := 0) (x := pcS N to lg fr (n + 1)) (by rw [um_s]; omega) (by rw [um_s]; omega) k0 (by rw [um_s]; omega) (by decide) (by decide)
    have s2 := set_232 (e := e) (d := d + 1) (m := um (um (uz m1 233 ((n : Int) * 2) 2) 232 3 ((n : Int) + 1)) 233 ((n : Int) * 2 + 0) (pcS N to lg fr (n + 1))) (i := (n : Int)) (j := 1) (x := sFd N lg n (pcS N to lg fr (n + 1))) (by rw [um_k (by decide), um_s]; omega) (by rw [um_k (by decide), um_s]; omega) k0 (by rw [um_k (by decide), um_s]; omega) (by decide) (by decide)
    have e229 : um (um (uz m1 233 ((n : Int) * 2) 2) 232 3 ((n : Int) + 1)) 233 ((n : Int) * 2 + 0) (pcS N to lg fr (n + 1)) 229 = m 229 := by rw [um_r (by decide), um_r (by decide), uz_r (by decide)]; exact f1 229 (by decide) (by decide)
    obtain ⟨m', a4, a5, a6, a7, p1, p2⟩ := ih (n + 1) (um (um (um (uz m1 233 ((n : Int) * 2) 2) 232 3 ((n : Int) + 1)) 233 ((n : Int) * 2 + 0) (pcS N to lg fr (n + 1))) 233 ((n : Int) * 2 + 1) (sFd N lg n (pcS N to lg fr (n + 1)))) u1 (.int (iI ((N 0 + (n : Int) / lg + 1) % 24))) (.int (iI (n : Int))) (by omega) P2.1 ((((r1.uz).um (wr_of (by omega) (by omega))).um (wr_of (by omega) (by omega))).um (wr_of (by omega) (by omega))) (by rw [um_k (by decide), um_k (by decide), um_s]; omega) (fun i hi => by
      by_cases z : i = n
      · subst z
        refine ⟨by rw [um_i (by omega), um_s], by rw [um_s]⟩
      · have old := rw1 i (by omega)
        refine ⟨?_, ?_⟩
        · rw [um_i (by omega), um_i (by omega), um_k (by decide), uz_i (by omega)]; exact old.1
        · rw [um_i (by omega), um_i (by omega), um_k (by decide), uz_i (by omega)]; exact old.2) (fun k h2 h3 => by rw [um_r h3, um_r h3, um_r h2, uz_r h3]; exact f1 k h2 h3)
    refine ⟨m', a4, a5, a6, a7, ?_, p2⟩
    have p1' : Z e (d + 2) 48 14 [.ref 226, u1, .int (iI to), .int (iI lg), .int (iI (pcS N to lg fr (n + 1))), .int (iI ((n : Int) + 1)), .int (iI ((N 0 + (n : Int) / lg + 1) % 24)), .int (iI (n : Int))] [] (um (um (um (uz m1 233 ((n : Int) * 2) 2) 232 3 ((n : Int) + 1)) 233 ((n : Int) * 2 + 0) (pcS N to lg fr (n + 1))) 233 ((n : Int) * 2 + 1) (sFd N lg n (pcS N to lg fr (n + 1)))) = _ := p1
    rw [← p1']
    refine (b_48_14).trans ?_
    rw [wr_of (x := (n : Int)) (by omega) (by omega), wr_of (x := pcS N to lg fr n) (by omega) (by omega), wt, itp ⟨k60, nt⟩, wl, ck_t (by omega), f1 1 (by decide) (by decide), e1, jd, jr, nx, ri_k, b_48_46, ad, ri_k, b_48_55, s1, rn_k, b_48_69, wr_of (x := pcS N to lg fr (n + 1)) (by omega) (by omega), ck_t (by omega), e229, cks, show bi (¬ seeS N (pcS N to lg fr (n + 1)) ((N 0 + (n : Int) / lg + 1) % 24) = 0) = sFd N lg n (pcS N to lg fr (n + 1)) from rfl, s2, rn_k, b_48_91]
theorem M_nextP {n : Nat} {x4 x5 : Int} {u1 u2 u10 u11 : Value} (hr : Rng m) (h247 : m 247 = N) (b6 : 0 ≤ N 6 ∧ N 6 ≤ 8) (iO : ∀ p, 0 ≤ p → p < N 6 → 0 ≤ N (1050 + 4 * p) ∧ N (1050 + 4 * p) < 100) (h0 : 0 ≤ N 0) (h9 : N 0 ≤ 9999) (l0 : 1 ≤ lg) (l1 : lg ≤ 4) (hW : isWay (wall N) fr w) (T : tabM N to lg (fun _ _ => True) m) (h : PI N to lg fr w n) (hn : (n : Int) < aV N to lg 60 fr % 1000) : ∃ u10' u11', Z e (d + 5) 285 113 [.ref 246, u1, u2, .int (iI lg), .int (iI x4), .int (iI x5), .int (iI (pcS N to lg fr n)), .int (iI (n : Int)), .int (iI (-1)), .int (iI 3), u10, u11] [] m = Z e (d + 5) 285 209 [.ref 246, u1, u2, .int (iI lg), .int (iI x4), .int (iI x5), .int (iI (pcS N to lg fr n)), .int (iI (n : Int)), .int (iI (pcS N to lg fr (n + 1))), .int (iI (-1)), u10', u11'] [] m := by
  have n60 := (h.step hW hn).2.1
  obtain ⟨h1, h2, h3, h4, h5, h6, h7⟩ := h
  show ∃ u10' u11', _ = Z e (d + 5) 285 209 [.ref 246, u1, u2, .int (iI lg), .int (iI x4), .int (iI x5), .int (iI (pcS N to lg fr n)), .int (iI (n : Int)), .int (iI (nxP N to lg n (pcS N to lg fr n))), .int (iI (-1)), u10', u11'] [] m
  have nn0 : (0 : Int) ≤ (n : Int) := by omega
  have nn1 : (n : Int) < 60 := by omega
  clear hn h6 h7 h1 n60 h4
  generalize pcS N to lg fr n = c at *
  generalize (n : Int) = nn at *
  have tc := T nn c nn0 (by omega) h2.1 h2.2 trivial
  have va := (aV_b (N := N) (to := to) (lg := lg) (60 - nn).toNat c (by omega)).1
  have wi : wr (100 * nn + c) = 100 * nn + c := wr_of (by omega) (by omega)
  have side : ∀ (s y : Int) (u10 u11 : Value), 0 ≤ s → s < 4 → ∃ u10' u11', Z e (d + 5) 285 113 [.ref 246, u1, u2, .int (iI lg), .int (iI x4), .int (iI x5), .int (iI c), .int (iI nn), .int (iI y), .int (iI s), u10, u11] [] m = Z e (d + 5) 285 113 [.ref 246, u1, u2, .int (iI lg), .int (iI x4), .int (iI x5), .int (iI c), .int (iI nn), .int (iI (cif (okP N to lg nn c s) (nbr c s) y)), .int (iI (s - 1)), u10', u11'] [] m := by
    intro s y u10 u11 s0 s1
    have st := stepTo_ok (e := e) (d := d + 2) (m := m) (c := c) (s := s) h2.1 h2.2 s0 s1 hr
    rw [h247] at st
    have start : Z e (d + 5) 285 113 [.ref 246, u1, u2, .int (iI lg), .int (iI x4), .int (iI x5), .int (iI c), .int (iI nn), .int (iI y), .int (iI s), u10, u11] [] m = _ := b_285_113
    rw [wr_of (x := s) (by omega) (by omega), itp s0, st, ri_k, b_285_126] at start
    by_cases q : nbr c s = -3 ∨ N (10 + nbr c s) = 1
    · rw [itp q, itn (by decide), b_285_187, itn (by decide)] at start
      rw [cif_f (fun z => q.elim z.1.1 z.1.2)]
      exact ⟨_, _, start⟩
    · have q1 : ¬ nbr c s = -3 := fun z => q (Or.inl z)
      have b := nbr_b h2.1 h2.2 q1
      have ok : okS N c s := ⟨q1, fun z => q (Or.inr z)⟩
      have tn := T (nn + 1) (nbr c s) (by omega) (by omega) b.1 b.2.1 trivial
      rw [show (60 - (nn + 1)).toNat = (59 - nn).toNat by omega] at tn
      have va2 := (aV_b (N := N) (to := to) (lg := lg) (59 - nn).toNat (nbr c s) (by omega)).1
      have s01 := sFd_01 (N := N) (lg := lg) (n := nn) (c := nbr c s)
      have wi2 : wr (100 * (nn + 1) + nbr c s) = 100 * (nn + 1) + nbr c s := wr_of (by omega) (by omega)
      have sa := M_seenAt (e := e) (d := d + 1) (m := m) (lg := lg) (n := nn) (c := nbr c s) hr (by rw [h247]; exact b6) (by rw [h247]; exact iO) (by rw [h247]; exact h0) (by rw [h247]; exact h9) nn0 (by omega) l0 l1 b.1 b.2.1
      rw [h247] at sa
      have wv : wr (aV N to lg (60 - nn).toNat c) = aV N to lg (60 - nn).toNat c := by
        rcases va with z | z
        · rw [z]; rfl
        · exact wr_of (by omega) (by omega)
      have wsum : wr (aV N to lg (59 - nn).toNat (nbr c s) + 1 + 1000 * sFd N lg nn (nbr c s)) = aV N to lg (59 - nn).toNat (nbr c s) + 1 + 1000 * sFd N lg nn (nbr c s) := by
        rcases va2 with z | z
        · rw [z]; exact wr_of (by omega) (by omega)
        · exact wr_of (by omega) (by omega)
      rw [itn q, wr_of (x := nbr c s) (by omega) (by omega), itp b.1, wi2, ck_t (by omega), sa, ri_k, b_285_164, wi, ck_t (by omega), tn, tc, wsum, wv] at start
      have iff : aV N to lg (59 - nn).toNat (nbr c s) + 1 + 1000 * sFd N lg nn (nbr c s) = aV N to lg (60 - nn).toNat c ↔ okP N to lg nn c s := by
        unfold okP
        exact ⟨fun z => ⟨ok, by omega, z⟩, fun z => z.2.2⟩
      by_cases k : okP N to lg nn c s
      · rw [itp (iff.mpr k), b_285_187, itp (by decide)] at start
        rw [cif_t k]
        exact ⟨_, _, start⟩
      · rw [itn (fun z => k (iff.mp z)), b_285_187, itn (by decide)] at start
        rw [cif_f k]
        exact ⟨_, _, start⟩
  obtain ⟨a3, b3, s3⟩ := side 3 (-1) u10 u11 (by decide) (by decide)
  obtain ⟨a2, b2, s2⟩ := side 2 (cif (okP N to lg nn c 3) (nbr c 3) (-1)) a3 b3 (by decide) (by decide)
  obtain ⟨a1, b1, s1⟩ := side 1 _ a2 b2 (by decide) (by decide)
  obtain ⟨a0, b0, s0⟩ := side 0 _ a1 b1 (by decide) (by decide)
  refine ⟨a0, b0, ?_⟩
  rw [s3, show (3 : Int) - 1 = 2 from rfl, s2, show (2 : Int) - 1 = 1 from rfl, s1, show (1 : Int) - 1 = 0 from rfl, s0, show (0 : Int) - 1 = -1 from rfl]
  refine (b_285_113).trans ?_
  rw [itn (by decide)]
  rfl
theorem M_rows {x4 x5 : Int} {u1 u2 : Value} (h247 : m 247 = N) (b6 : 0 ≤ N 6 ∧ N 6 ≤ 8) (iO : ∀ p, 0 ≤ p → p < N 6 → 0 ≤ N (1050 + 4 * p) ∧ N (1050 + 4 * p) < 100) (h0 : 0 ≤ N 0) (h9 : N 0 ≤ 9999) (l0 : 1 ≤ lg) (l1 : lg ≤ 4) (hW : isWay (wall N) fr w) (T : tabM N to lg (fun _ _ => True) m) (e7 : m 246 7 = aV N to lg 60 fr % 1000) : ∀ (j : Nat) (n : Nat) (m1 : zMm) (u8 u9 u10 u11 : Value), (n : Int) + j = aV N to lg 60 fr % 1000 → PI N to lg fr w n → Rng m1 → rwC N to lg fr n 250 m1 → rwC N to lg fr n 251 m1 → (∀ k, ¬ k = 250 → ¬ k = 251 → m1 k = m k) → ∃ m' u6 u7 u8' u9' u10' u11', Z e (d + 5) 285 98 [.ref 246, u1, u2, .int (iI lg), .int (iI x4), .int (iI x5), .int (iI (pcS N to lg fr n)), .int (iI (n : Int)), u8, u9, u10, u11] [] m1 = Z e (d + 5) 285 292 [.ref 246, u1, u2, .int (iI lg), .int (iI x4), .int (iI x5), u6, u7, u8', u9', u10', u11'] [] m' ∧ rwC N to lg fr (aV N to lg 60 fr % 1000).toNat 250 m' ∧ rwC N to lg fr (aV N to lg 60 fr % 1000).toNat 251 m' ∧ (∀ k, ¬ k = 250 → ¬ k = 251 → m' k = m k) ∧ Rng m' := by
  intro j
  have Kb : 0 ≤ aV N to lg 60 fr % 1000 ∧ aV N to lg 60 fr % 1000 < 1000 := by omega
  have wK : wr (aV N to lg 60 fr % 1000) = aV N to lg 60 fr % 1000 := wr_of (by omega) (by omega)
  induction j with
  | zero =>
    intro n m1 u8 u9 u10 u11 hj hP r1 q1 q2 f1
    have e : (aV N to lg 60 fr % 1000).toNat = n := by omega
    rw [e]
    refine ⟨m1, .int (iI (pcS N to lg fr n)), .int (iI (n : Int)), u8, u9, u10, u11, (b_285_98).trans ?_, q1, q2, f1, r1⟩
    rw [f1 246 (by decide) (by decide), e7, wK, wr_of (x := (n : Int)) (by omega) (by omega), itn (by omega)]
  | succ j ih =>
    intro n m1 u8 u9 u10 u11 hj hP r1 q1 q2 f1
    have hn : (n : Int) < aV N to lg 60 fr % 1000 := by omega
    have P2 := hP.step hW hn
    have n60 := P2.2.1
    have pb2 := P2.1.2.1
    have e247 : m1 247 = N := by rw [f1 247 (by decide) (by decide)]; exact h247
    obtain ⟨a10, a11, nx⟩ := M_nextP (e := e) (d := d) (m := m1) (N := N) (to := to) (lg := lg) (fr := fr) (w := w) (n := n) (x4 := x4) (x5 := x5) (u1 := u1) (u2 := u2) (u10 := u10) (u11 := u11) r1 e247 b6 iO h0 h9 l0 l1 hW (fun n' c' a b cc dd D => by rw [f1 260 (by decide) (by decide)]; exact T n' c' a b cc dd D) hP hn
    have s01 := sFd_01 (N := N) (lg := lg) (n := n) (c := pcS N to lg fr (n + 1))
    have y0 : wr (2 * (n : Int)) = 2 * (n : Int) := wr_of (by omega) (by omega)
    have y1 : wr (2 * (n : Int) + 1) = 2 * (n : Int) + 1 := wr_of (by omega) (by omega)
    have z0 : 0 ≤ 2 * (n : Int) ∧ 2 * (n : Int) < 120 := by omega
    have z1 : 0 ≤ 2 * (n : Int) + 1 ∧ 2 * (n : Int) + 1 < 120 := by omega
    have rr : Rng (um m1 250 (2 * (n : Int)) (pcS N to lg fr (n + 1))) := r1.um (wr_of (by omega) (by omega))
    have sa := M_seenAt (e := e) (d := d + 1) (m := um m1 250 (2 * (n : Int)) (pcS N to lg fr (n + 1))) (lg := lg) (n := (n : Int)) (c := pcS N to lg fr (n + 1)) rr (by rw [um_r (by decide), e247]; exact b6) (by rw [um_r (by decide), e247]; exact iO) (by rw [um_r (by decide), e247]; exact h0) (by rw [um_r (by decide), e247]; exact h9) (by omega) (by omega) l0 l1 pb2.1 pb2.2
    rw [um_r (by decide), e247] at sa
    obtain ⟨S, hS⟩ : ∃ S, S = sFd N lg n (pcS N to lg fr (n + 1)) := ⟨_, rfl⟩
    obtain ⟨P, hPp⟩ : ∃ P, P = pcS N to lg fr (n + 1) := ⟨_, rfl⟩
    obtain ⟨t, ht⟩ : ∃ t : Int, t = (n : Int) := ⟨_, rfl⟩
    have M2 : (um (um (um (um m1 250 (2 * t) P) 250 (2 * t + 1) S) 251 (2 * t) (um (um m1 250 (2 * t) P) 250 (2 * t + 1) S 250 (2 * t))) 251 (2 * t + 1) (um (um (um m1 250 (2 * t) P) 250 (2 * t + 1) S) 251 (2 * t) (um (um m1 250 (2 * t) P) 250 (2 * t + 1) S 250 (2 * t)) 250 (2 * t + 1))) = um (um (um (um m1 250 (2 * t) P) 250 (2 * t + 1) S) 251 (2 * t) P) 251 (2 * t + 1) S := by
      have e1 : um (um m1 250 (2 * t) P) 250 (2 * t + 1) S 250 (2 * t) = P := by rw [um_i (by omega), um_s]
      rw [e1]
      have e2 : um (um (um m1 250 (2 * t) P) 250 (2 * t + 1) S) 251 (2 * t) P 250 (2 * t + 1) = S := by rw [um_k (by decide), um_s]
      rw [e2]
    have wP : wr P = P := by rw [hPp]; exact wr_of (by omega) (by omega)
    have wS : wr S = S := by rw [hS]; exact wr_of (by omega) (by omega)
    obtain ⟨m', v6, v7, v8, v9, v10, v11, p1, p2⟩ := ih (n + 1) (um (um (um (um m1 250 (2 * t) P) 250 (2 * t + 1) S) 251 (2 * t) P) 251 (2 * t + 1) S) (.int (iI P)) (.int (iI (-1))) a10 a11 (by omega) P2.1 ((((r1.um wP).um wS).um wP).um wS) (fun i hi => by
      rw [um_r (by decide), um_r (by decide)]
      by_cases z : i = n
      · subst z
        refine ⟨?_, ?_⟩
        · rw [show (i : Int) * 2 + 0 = 2 * t by omega, um_i (by omega), um_s, hPp]
        · rw [show (i : Int) * 2 + 1 = 2 * t + 1 by omega, um_s, hS]
      · have old := q1 i (by omega)
        refine ⟨?_, ?_⟩
        · rw [um_i (by omega), um_i (by omega)]; exact old.1
        · rw [um_i (by omega), um_i (by omega)]; exact old.2) (fun i hi => by
      by_cases z : i = n
      · subst z
        refine ⟨?_, ?_⟩
        · rw [show (i : Int) * 2 + 0 = 2 * t by omega, um_i (by omega), um_s, hPp]
        · rw [show (i : Int) * 2 + 1 = 2 * t + 1 by omega, um_s, hS]
      · have old := q2 i (by omega)
        refine ⟨?_, ?_⟩
        · rw [um_i (by omega), um_i (by omega), um_k (by decide), um_k (by decide)]; exact old.1
        · rw [um_i (by omega), um_i (by omega), um_k (by decide), um_k (by decide)]; exact old.2) (fun k k0 k1 => by rw [um_r k1, um_r k1, um_r k0, um_r k0]; exact f1 k k0 k1)
    refine ⟨m', v6, v7, v8, v9, v10, v11, ?_, p2⟩
    have p1' : Z e (d + 5) 285 98 [.ref 246, u1, u2, .int (iI lg), .int (iI x4), .int (iI x5), .int (iI P), .int (iI (t + 1)), .int (iI P), .int (iI (-1)), a10, a11] [] (um (um (um (um m1 250 (2 * t) P) 250 (2 * t + 1) S) 251 (2 * t) P) 251 (2 * t + 1) S) = Z e (d + 5) 285 292 [.ref 246, u1, u2, .int (iI lg), .int (iI x4), .int (iI x5), v6, v7, v8, v9, v10, v11] [] m' := by
      rw [← p1, hPp, ht]
      rfl
    rw [← p1']
    rw [← hS, ← hPp, ← ht] at sa
    rw [← ht] at y0 y1 z0 z1
    refine (b_285_98).trans ?_
    rw [f1 246 (by decide) (by decide), e7, wK, wr_of (x := (n : Int)) (by omega) (by omega), itp hn, nx, b_285_209, ← ht, ← hPp, y0, ck_t z0, sa, ri_k, b_285_241, y1, ck_t z1, y0, ck_t z0, ck_t z0, ck_t z1, ck_t z1, M2]
end RR
