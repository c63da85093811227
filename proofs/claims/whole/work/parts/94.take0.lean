/-! take: what stays. -/
section T0
variable {e : List Int32 × Value} {d : Nat} {m m0 : zMm} {N : Int → Int}
theorem hp_cgw {m m' : zMm} {k n : Nat} (hs : zshape[k]? = some (0, 0, n, [])) (h1 : ∀ k', ¬ k' = k → m' k' = m k') (h2 : ∀ i, wr (m' k i) = wr (m k i)) : hp m' = hp m := by
  unfold hp
  refine List.ext_getElem? (fun i => ?_)
  rw [List.getElem?_mapIdx, List.getElem?_mapIdx]
  by_cases hi : i = k
  · subst hi
    rw [hs]
    show some (Sum.inl (0, (List.range n).map (fun j : Nat => iI (m' i j)))) = some (Sum.inl (0, (List.range n).map (fun j : Nat => iI (m i j))))
    have : (fun j : Nat => iI (m' i j)) = (fun j : Nat => iI (m i j)) := funext fun j => iI_eq.mpr (h2 j)
    rw [this]
  · rw [h1 i hi]
theorem Inv_B {m2 : zMm} (hI : Inv m) (hr2 : Rng m2) (hF : ∀ k, ¬ k = 5 → ¬ k = 12 → ¬ k = 13 → ¬ k = 247 → m2 k = m k) (hN : ∀ i, ¬ (i = 5 ∨ (110 ≤ i ∧ i < 254) ∨ (938 ≤ i ∧ i < 1050)) → m2 247 i = m 247 i) (num : cNum m2 (m2 247)) (ppl : cPpl m2 (m2 247)) (hrd : cHrd m2 (m2 247)) (tak : cTak m2 (m2 247)) : Inv m2 := by
  obtain ⟨hr, ⟨iN, iG, iP, iH, iS, iD, iT, iO, iU, iR, iV⟩, iK, iL, iF, iB, iA, iW, iX⟩ := id hI
  have bN := iN
  unfold cNum at bN
  have hz : nz (m2 247) = nz (m 247) := nz_cg (fun i hi => hN i (by omega)) (fun i _ _ => by rw [hN i (by omega)])
  have hz2 : nw (m2 247) = nw (m 247) := nw_cg (fun i hi => hN i (by omega)) (fun i _ _ => by rw [hN i (by omega)])
  have f : ∀ k, ¬ (k = 5 ∨ k = 12 ∨ k = 13 ∨ k = 247) → m2 k = m k := fun k z => hF k (by omega) (by omega) (by omega) (by omega)
  have e0 := hN 0 (by omega)
  have e1 := hN 1 (by omega)
  refine ⟨hr2, ⟨num, cGnd_cg (f 2 (by omega)) (fun i _ _ => hN i (by omega)) iG, ppl, hrd, cSto_cg (f 7 (by omega)) (hN 2 (by omega)) (by omega) (fun i _ _ => hN i (by omega)) iS, cDee_cg (f 9 (by omega)) (by omega) (by omega) (hN 4 (by omega)) (by omega) (fun i _ _ => hN i (by omega)) iD, tak, cPos_cg (f 15 (by omega)) (hN 6 (by omega)) (by omega) (fun i _ _ => hN i (by omega)) iO, cSig_cg (f 17 (by omega)) (hN 8 (by omega)) (by omega) (fun i _ _ => hN i (by omega)) iU, cPor_cg (f 11 (by omega)) (fun i _ _ => hN i (by omega)) iR, cVer_cg (fun k _ _ => f k (by omega)) (by omega) (hN 3 (by omega)) (by omega) (fun i _ _ => hN i (by omega)) (fun i _ _ => hN i (by omega)) iV⟩, Kept_cg (by rw [f 0 (by omega)]) (by rw [f 246 (by omega)]) (fun k _ _ => f k (by omega)) (f 248 (by omega)) iK, LawOK_cg (f 202 (by omega)) (f 204 (by omega)) (f 205 (by omega)) (fun k _ _ => f k (by omega)) (by omega) hz iL, RefOK_cg (by rw [f 246 (by omega)]) (by rw [f 246 (by omega)]) (by rw [f 246 (by omega)]) (f 254 (by omega)) hz2 iF, beside_cg (f 192 (by omega)) iB, Tape_cg (by rw [f 179 (by omega)]) (by rw [f 246 (by omega)]) (f 180 (by omega)) (f 249 (by omega)) iA, Rows_cg (by rw [f 230 (by omega)]) (by rw [f 246 (by omega)]) (by rw [f 246 (by omega)]) (by rw [f 226 (by omega)]) (by rw [f 232 (by omega)]) (f 231 (by omega)) (f 250 (by omega)) (f 233 (by omega)) (f 251 (by omega)) iW, Host_cg (fun k _ _ => f k (by omega)) (by rw [f 234 (by omega)]) (by rw [f 246 (by omega)]) (fun k _ _ => f k (by omega)) iX⟩
def tkC (m : zMm) (p q f l s x : Int) : zMm := (um (um (um (um (um (um (um (um (um (um (um (um (uz m 13 (m 247 5 * 7) 7) 12 3 (m 247 5 + 1)) 13 (m 247 5 * 7 + 0) p) 13 (m 247 5 * 7 + 1) q) 13 (m 247 5 * 7 + 2) (m 247 0)) 13 (m 247 5 * 7 + 3) (m 247 (110 + 9 * q + 0))) 13 (m 247 5 * 7 + 4) f) 13 (m 247 5 * 7 + 5) l) 13 (m 247 5 * 7 + 6) s) 5 (p * 18 + 8) x) 5 (q * 18 + 2) (6 - l)) 5 (q * 18 + 3) (m 247 0)) 5 (q * 18 + 4) (-3))
def tkR (m : zMm) (N : Int → Int) (p q f l s x : Int) : zMm := um (um (um (um (um (um (um (um (um (um (um (um m 247 (938 + 7 * N 5) p) 247 (938 + 7 * N 5 + 1) q) 247 (938 + 7 * N 5 + 2) (N 0)) 247 (938 + 7 * N 5 + 3) (N (110 + 9 * q + 0))) 247 (938 + 7 * N 5 + 4) f) 247 (938 + 7 * N 5 + 5) l) 247 (938 + 7 * N 5 + 6) (1 - s)) 247 5 (N 5 + 1)) 247 (110 + 9 * p + 8) x) 247 (110 + 9 * q + 4) (-3)) 247 (110 + 9 * q + 2) (6 - l)) 247 (110 + 9 * q + 3) (N 0)
theorem tkC_k {p q f l s x : Int} {k : Nat} (h1 : ¬ k = 5) (h2 : ¬ k = 12) (h3 : ¬ k = 13) : tkC m p q f l s x k = m k := by
  unfold tkC
  simp (disch := first | omega | (simp (disch := first | decide | omega) only [um_k, um_e, um_i, uz_k]; omega) | exact cat_i | exact cat_u | exact cat_r | assumption | exact rfl) only [um_r, um_k, um_i, um_e, uz_r, uz_k, uz_i, uz_in]
theorem tkR_k {p q f l s x : Int} {k : Nat} (h1 : ¬ k = 247) : tkR m N p q f l s x k = m k := by
  unfold tkR
  simp (disch := first | omega | (simp (disch := first | decide | omega) only [um_k, um_e, um_i, uz_k]; omega) | exact cat_i | exact cat_u | exact cat_r | assumption | exact rfl) only [um_r, um_k, um_i, um_e, uz_r, uz_k, uz_i, uz_in]
theorem Inv_take {p q f l s x : Int} (hI : Inv m) (p0 : 0 ≤ p) (p1 : p < m 247 1) (q0 : 0 ≤ q) (q1 : q < m 247 1) (hpq : ¬ p = q) (ht : m 247 5 < 16) (hl : 0 ≤ l ∧ l ≤ 1) (hs : 0 ≤ s ∧ s ≤ 1) (wf : wr f = f) (wx : wr x = x) : Inv (tkR (tkC m p q f l s x) (m 247) p q f l s x) := by
  obtain ⟨hr, ⟨iN, iG, iP, iH, iS, iD, iT, iO, iU, iR, iV⟩, iK, iL, iF, iB, iA, iW, iX⟩ := id hI
  have bN := iN
  unfold cNum at bN
  have pq := iP q q0 q1
  have bq := pq
  unfold pRow at bq
  generalize hT : m 247 5 = t at *
  have k5 : tkR (tkC m p q f l s x) (m 247) p q f l s x 5 = tkC m p q f l s x 5 := tkR_k (by decide)
  have k12 : tkR (tkC m p q f l s x) (m 247) p q f l s x 12 = tkC m p q f l s x 12 := tkR_k (by decide)
  have k13 : tkR (tkC m p q f l s x) (m 247) p q f l s x 13 = tkC m p q f l s x 13 := tkR_k (by decide)
  have c247 : tkC m p q f l s x 247 = m 247 := tkC_k (by decide) (by decide) (by decide)
  have ko : ∀ k, ¬ k = 5 → ¬ k = 12 → ¬ k = 13 → ¬ k = 247 → tkR (tkC m p q f l s x) (m 247) p q f l s x k = m k := fun k h1 h2 h3 h4 => by rw [tkR_k h4, tkC_k h1 h2 h3]
  have no : ∀ i, ¬ (i = 5 ∨ i = 110 + 9 * p + 8 ∨ i = 110 + 9 * q + 4 ∨ i = 110 + 9 * q + 2 ∨ i = 110 + 9 * q + 3 ∨ (938 + 7 * t ≤ i ∧ i < 945 + 7 * t)) → tkR (tkC m p q f l s x) (m 247) p q f l s x 247 i = m 247 i := fun i hi => by
    unfold tkR
    rw [hT]
    simp (disch := first | omega | (simp (disch := first | decide | omega) only [um_k, um_e, um_i, uz_k]; omega) | exact cat_i | exact cat_u | exact cat_r | assumption | exact rfl) only [um_i]
    rw [c247]
  have nv : tkR (tkC m p q f l s x) (m 247) p q f l s x 247 5 = t + 1 ∧ tkR (tkC m p q f l s x) (m 247) p q f l s x 247 (110 + 9 * p + 8) = x ∧ tkR (tkC m p q f l s x) (m 247) p q f l s x 247 (110 + 9 * q + 4) = -3 ∧ tkR (tkC m p q f l s x) (m 247) p q f l s x 247 (110 + 9 * q + 2) = 6 - l ∧ tkR (tkC m p q f l s x) (m 247) p q f l s x 247 (110 + 9 * q + 3) = m 247 0 := by
    unfold tkR
    rw [hT]
    refine ⟨?_, ?_, ?_, ?_, ?_⟩ <;> simp (disch := first | omega | (simp (disch := first | decide | omega) only [um_k, um_e, um_i, uz_k]; omega) | exact cat_i | exact cat_u | exact cat_r | assumption | exact rfl) only [um_i, um_e]
  have tv : tkR (tkC m p q f l s x) (m 247) p q f l s x 247 (938 + 7 * t + 0) = p ∧ tkR (tkC m p q f l s x) (m 247) p q f l s x 247 (938 + 7 * t + 1) = q ∧ tkR (tkC m p q f l s x) (m 247) p q f l s x 247 (938 + 7 * t + 2) = m 247 0 ∧ tkR (tkC m p q f l s x) (m 247) p q f l s x 247 (938 + 7 * t + 3) = m 247 (110 + 9 * q + 0) ∧ tkR (tkC m p q f l s x) (m 247) p q f l s x 247 (938 + 7 * t + 4) = f ∧ tkR (tkC m p q f l s x) (m 247) p q f l s x 247 (938 + 7 * t + 5) = l ∧ tkR (tkC m p q f l s x) (m 247) p q f l s x 247 (938 + 7 * t + 6) = 1 - s := by
    unfold tkR
    rw [hT]
    refine ⟨?_, ?_, ?_, ?_, ?_, ?_, ?_⟩ <;> simp (disch := first | omega | (simp (disch := first | decide | omega) only [um_k, um_e, um_i, uz_k]; omega) | exact cat_i | exact cat_u | exact cat_r | assumption | exact rfl) only [um_i, um_e]
  have cv : tkC m p q f l s x 13 (t * 7 + 0) = p ∧ tkC m p q f l s x 13 (t * 7 + 1) = q ∧ tkC m p q f l s x 13 (t * 7 + 2) = m 247 0 ∧ tkC m p q f l s x 13 (t * 7 + 3) = m 247 (110 + 9 * q + 0) ∧ tkC m p q f l s x 13 (t * 7 + 4) = f ∧ tkC m p q f l s x 13 (t * 7 + 5) = l ∧ tkC m p q f l s x 13 (t * 7 + 6) = s := by
    unfold tkC
    rw [hT]
    refine ⟨?_, ?_, ?_, ?_, ?_, ?_, ?_⟩ <;> simp (disch := first | omega | (simp (disch := first | decide | omega) only [um_k, um_e, um_i, uz_k]; omega) | exact cat_i | exact cat_u | exact cat_r | assumption | exact rfl) only [um_k, um_i, um_e]
  have co : ∀ i, i < t * 7 → tkC m p q f l s x 13 i = m 13 i := fun i hi => by
    unfold tkC
    rw [hT]
    simp (disch := first | omega | (simp (disch := first | decide | omega) only [um_k, um_e, um_i, uz_k]; omega) | exact cat_i | exact cat_u | exact cat_r | assumption | exact rfl) only [um_k, um_i, uz_i]
  have cn : tkC m p q f l s x 12 3 = t + 1 := by
    unfold tkC
    rw [hT]
    simp (disch := first | omega | (simp (disch := first | decide | omega) only [um_k, um_e, um_i, uz_k]; omega) | exact cat_i | exact cat_u | exact cat_r | assumption | exact rfl) only [um_k, um_e]
  have pv : tkC m p q f l s x 5 (p * 18 + 8) = x ∧ tkC m p q f l s x 5 (q * 18 + 2) = 6 - l ∧ tkC m p q f l s x 5 (q * 18 + 3) = m 247 0 ∧ tkC m p q f l s x 5 (q * 18 + 4) = -3 := by
    unfold tkC
    refine ⟨?_, ?_, ?_, ?_⟩ <;> simp (disch := first | omega | (simp (disch := first | decide | omega) only [um_k, um_e, um_i, uz_k]; omega) | exact cat_i | exact cat_u | exact cat_r | assumption | exact rfl) only [um_i, um_e]
  have po : ∀ i, ¬ (i = p * 18 + 8 ∨ i = q * 18 + 2 ∨ i = q * 18 + 3 ∨ i = q * 18 + 4) → tkC m p q f l s x 5 i = m 5 i := fun i hi => by
    unfold tkC
    simp (disch := first | omega | (simp (disch := first | decide | omega) only [um_k, um_e, um_i, uz_k]; omega) | exact cat_i | exact cat_u | exact cat_r | assumption | exact rfl) only [um_k, um_i, uz_k]
  have r0 : Rng (tkR (tkC m p q f l s x) (m 247) p q f l s x) := by
    have wp : wr p = p := wr_of (by omega) (by omega)
    have wq : wr q = q := wr_of (by omega) (by omega)
    have wl : wr l = l := wr_of (by omega) (by omega)
    have ws : wr s = s := wr_of (by omega) (by omega)
    have w1 : wr (1 - s) = 1 - s := wr_of (by omega) (by omega)
    have w6 : wr (6 - l) = 6 - l := wr_of (by omega) (by omega)
    have wt : wr (m 247 5 + 1) = m 247 5 + 1 := wr_of (by omega) (by omega)
    unfold tkR tkC
    repeat' (first | exact hr | exact wp | exact wq | exact wl | exact ws | exact w1 | exact w6 | exact wt | exact wf | exact wx | exact hr _ _ | exact (rfl : wr (-3) = -3) | apply Rng.um | apply Rng.uz)
  obtain ⟨v5, v8, v4, v2, v3⟩ := nv
  obtain ⟨t0, t1, t2, t3, t4, t5, t6⟩ := tv
  obtain ⟨d0, d1, d2, d3, d4, d5, d6⟩ := cv
  obtain ⟨e8, e2, e3, e4⟩ := pv
  generalize hM : tkR (tkC m p q f l s x) (m 247) p q f l s x = M at *
  generalize hK : tkC m p q f l s x = K at *
  refine Inv_B hI r0 ko (fun i hi => no i (by omega)) ?_ ?_ ?_ ?_
  · unfold cNum
    rw [ko 1 (by decide) (by decide) (by decide) (by decide), ko 4 (by decide) (by decide) (by decide) (by decide), ko 6 (by decide) (by decide) (by decide) (by decide), ko 8 (by decide) (by decide) (by decide) (by decide), ko 10 (by decide) (by decide) (by decide) (by decide), ko 14 (by decide) (by decide) (by decide) (by decide), ko 16 (by decide) (by decide) (by decide) (by decide), k12, cn, v5, no 0 (by omega), no 1 (by omega), no 2 (by omega), no 3 (by omega), no 4 (by omega), no 6 (by omega), no 7 (by omega), no 8 (by omega)]
    omega
  · intro y g1 g2
    rw [no 1 (by omega)] at g2
    have old := iP y g1 g2
    by_cases yq : y = q
    · subst yq
      unfold pRow at old ⊢
      rw [v2, v3, v4, no (110 + 9 * y + 0) (by omega), no (110 + 9 * y + 1) (by omega), no (110 + 9 * y + 7) (by omega)]
      refine ⟨fun g h0 h1 => ?_, by omega⟩
      rw [k5]
      by_cases z2 : g = 2
      · rw [z2, e2, v2]
      · by_cases z3 : g = 3
        · rw [z3, e3, v3]
        · by_cases z4 : g = 4
          · rw [z4, e4, v4]
          · rw [po _ (by omega), no _ (by omega)]
            exact old.1 g h0 h1
    · by_cases yp : y = p
      · subst yp
        unfold pRow at old ⊢
        rw [no (110 + 9 * y + 0) (by omega), no (110 + 9 * y + 1) (by omega), no (110 + 9 * y + 2) (by omega), no (110 + 9 * y + 3) (by omega), no (110 + 9 * y + 4) (by omega), no (110 + 9 * y + 7) (by omega)]
        refine ⟨fun g h0 h1 => ?_, old.2⟩
        rw [k5]
        by_cases z8 : g = 8
        · rw [z8, e8, v8]
        · rw [po _ (by omega), no _ (by omega)]
          exact old.1 g h0 h1
      · exact pRow_cg (fun g _ _ => by rw [k5]; exact po _ (by omega)) (fun g _ _ => no _ (by omega)) old
  · intro y g1 g2
    rw [no 1 (by omega)] at g2
    exact hRow_cg (fun b _ _ => by rw [k5]; exact po _ (by omega)) (Int.le_of_eq (no 0 (by omega)).symm) (no 7 (by omega)) (fun b _ _ => no _ (by omega)) (iH y g1 g2)
  · intro y g1 g2
    rw [v5] at g2
    by_cases yt : y = t
    · subst yt
      unfold tRow
      rw [t1, t2, t3, t5, t6, k13, d6, no 1 (by omega), no 0 (by omega)]
      refine ⟨fun g h0 h1 => ?_, by omega, by omega, by omega, by omega, by omega⟩
      have hg : g = 0 ∨ g = 1 ∨ g = 2 ∨ g = 3 ∨ g = 4 ∨ g = 5 := by omega
      rcases hg with z | z | z | z | z | z <;> subst z
      · rw [d0, t0]
      · rw [d1, t1]
      · rw [d2, t2]
      · rw [d3, t3]
      · rw [d4, t4]
      · rw [d5, t5]
    · exact tRow_cg (fun g _ _ => by rw [k13]; exact co _ (by omega)) (Int.le_of_eq (no 0 (by omega)).symm) (Int.le_of_eq (no 1 (by omega)).symm) (fun g _ _ => no _ (by omega)) (iT y g1 (by omega))
end T0
