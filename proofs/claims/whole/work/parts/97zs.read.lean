/-! read. -/
section SS
variable {e : List Int32 × Value} {d d' : Nat} {m : zMm}
theorem Inv_read {m2 : zMm} (hI : Inv m) (hr2 : Rng m2) (f : ∀ k, ¬ (k = 179 ∨ k = 246 ∨ (182 ≤ k ∧ k ≤ 190) ∨ k = 255 ∨ k = 256) → m2 k = m k) (h1 : m2 179 1 = 0) (h4 : m2 246 4 = 0) (g : ∀ i, ¬ (i = 4 ∨ (15 ≤ i ∧ i ≤ 21)) → m2 246 i = m 246 i) : Inv m2 := by
  obtain ⟨hr, ⟨iN, iG, iP, iH, iS, iD, iT, iO, iU, iR, iV⟩, iK, iL, iF, iB, iA, iW, iX⟩ := id hI
  have bN := iN
  unfold cNum at bN
  have hC : Core m (m 247) := ⟨iN, iG, iP, iH, iS, iD, iT, iO, iU, iR, iV⟩
  have f0 := f 0 (by omega)
  have f247 := f 247 (by omega)
  have f248 := f 248 (by omega)
  refine ⟨hr2, ?_, ?_, ?_, ?_, ?_, ?_, ?_, ?_⟩
  · exact Core_cg (fun k _ _ => f k (by omega)) (fun i _ _ => by rw [f247]) hC
  · exact Kept_cg (by rw [f0]) (g 2 (by decide)) (fun k _ _ => f k (by omega)) f248 iK
  · exact LawOK_cg (f 202 (by omega)) (f 204 (by omega)) (f 205 (by omega)) (fun k _ _ => f k (by omega)) (by omega) (by rw [f247]) iL
  · exact RefOK_cg (g 12 (by decide)) (g 13 (by decide)) (g 14 (by decide)) (f 254 (by omega)) (by rw [f247]) iF
  · exact beside_cg (f 192 (by omega)) iB
  · unfold Tape
    rw [h1, h4]
    exact ⟨rfl, Int.le_refl _, by decide, fun i i0 i1 => by omega⟩
  · exact Rows_cg (by rw [f 230 (by omega)]) (g 7 (by decide)) (g 8 (by decide)) (by rw [f 226 (by omega)]) (by rw [f 232 (by omega)]) (f 231 (by omega)) (f 250 (by omega)) (f 233 (by omega)) (f 251 (by omega)) iW
  · exact Host_cg (fun k _ _ => f k (by omega)) (by rw [f 234 (by omega)]) (g 35 (by decide)) (fun k _ _ => f k (by omega)) iX
theorem ver_add {F F' : zMm} {N N' : Int → Int} {n : Int} (iV : cVer F N) (hn : N 3 = n) (n0 : 0 ≤ n) (n1 : n < 12) (h0 : N' 0 = N 0) (h3 : N' 3 = n + 1) (hF : ∀ k, 18 ≤ k → k < 18 + 6 * n.toNat → F' k = F k) (hN : ∀ i, 266 ≤ i → i < 266 + 44 * n → N' i = N i) (hC : ∀ i, 1297 ≤ i → i < 1297 + 120 * n → N' i = N i) (new : vRow F' N' n) (hop : ∀ v, 0 ≤ v → v < n → N (266 + 44 * v + 0) = N' (266 + 44 * n + 0) → ¬ N (266 + 44 * v + 2) = -3) (hbg : N' (266 + 44 * n + 1) = N 0) : cVer F' N' := by
  refine ⟨fun v g1 g2 => ?_, fun v1 v2 g1 g2 g3 g4 => ?_⟩
  · rw [h3] at g2
    by_cases z : v = n
    · rw [z]; exact new
    · have hC2 : cdR N' v = cdR N v := by
        funext k
        unfold cdR
        by_cases hk : 0 ≤ k ∧ k < 120
        · rw [if_pos hk, if_pos hk, hC _ (by omega) (by omega)]
        · rw [if_neg hk, if_neg hk]
      exact vRow_cg g1 (by omega) (fun k _ _ => hF k (by omega) (by omega)) (by omega) (fun i _ _ => hN i (by omega) (by omega)) hC2 (iV.1 v g1 (by omega))
  · rw [h3] at g3
    by_cases z : v2 = n
    · subst z
      rw [hN (266 + 44 * v1 + 0) (by omega) (by omega)] at g4
      have a := hop v1 g1 g2 g4
      have q := iV.1 v1 g1 (by omega)
      unfold vRow at q
      rw [hN (266 + 44 * v1 + 2) (by omega) (by omega), hbg]
      have q3 := q.2.2.1.2
      exact ⟨a, by omega⟩
    · rw [hN (266 + 44 * v1 + 0) (by omega) (by omega), hN (266 + 44 * v2 + 0) (by omega) (by omega)] at g4
      rw [hN (266 + 44 * v1 + 2) (by omega) (by omega), hN (266 + 44 * v2 + 1) (by omega) (by omega)]
      exact iV.2 v1 v2 g1 g2 (by omega) g4
/-- the row of the new version -/
theorem new_row {F F' N : zMm} {M : Int → Int} {c n : Int} (h : DR F N) (n0 : 0 ≤ n) (n1 : n < 12) (c0 : 0 ≤ c) (c1 : c ≤ 2) (m0 : 0 ≤ M 0) (a0 : F' (18 + 6 * n.toNat) 0 = c) (a1 : F' (18 + 6 * n.toNat) 1 = M 0) (a2 : F' (18 + 6 * n.toNat) 2 = -3) (a3 : F' (18 + 6 * n.toNat) 3 = F 185 3) (a4 : ∀ i, 0 ≤ i → i < 10 → F' (18 + 6 * n.toNat + 1) i = F 186 i ∧ F' (18 + 6 * n.toNat + 2) i = F 187 i ∧ F' (18 + 6 * n.toNat + 3) i = F 188 i ∧ F' (18 + 6 * n.toNat + 4) i = F 189 i) (a5 : ∀ i, 0 ≤ i → i < 100 → F' (18 + 6 * n.toNat + 5) i = F 190 i) (b0 : M (266 + 44 * n + 0) = c) (b1 : M (266 + 44 * n + 1) = M 0) (b2 : M (266 + 44 * n + 2) = -3) (b3 : M (266 + 44 * n + 3) = N 246 21) (b4 : ∀ j, 0 ≤ j → j < 40 → M (266 + 44 * n + (4 + j)) = N 255 j) (b5 : ∀ j, 0 ≤ j → j < N 246 20 → M (1297 + 120 * n + j) = N 256 j) : vRow F' M n := by
  obtain ⟨x, x', l, h1, h2, h3, h4, h5, h6, h7⟩ := h
  unfold vRow
  rw [a0, a1, a2, a3, b0, b1, b2, b3, h1, h3]
  refine ⟨⟨rfl, c0, c1⟩, ⟨rfl, m0, Int.le_refl _⟩, ⟨rfl, Or.inl rfl⟩, ⟨rfl, h5⟩, fun q q0 q1 => ?_⟩
  have k := h7 q q0 q1
  obtain ⟨k1, k2, k3, k4, k5⟩ := k
  have y := a4 q q0 (by omega)
  unfold lRow
  rw [y.1, y.2.1, y.2.2.1, y.2.2.2, b4 (4 * q) (by omega) (by omega), show (4 + 4 * q + 1 : Int) = 4 + (4 * q + 1) by omega, show (4 + 4 * q + 2 : Int) = 4 + (4 * q + 2) by omega, show (4 + 4 * q + 3 : Int) = 4 + (4 * q + 3) by omega, b4 (4 * q + 1) (by omega) (by omega), b4 (4 * q + 2) (by omega) (by omega), b4 (4 * q + 3) (by omega) (by omega)]
  refine ⟨k1, k2, ⟨k3.1, by omega⟩, ⟨k4.1, by omega⟩, ?_⟩
  rcases k5 with z | z
  · exact Or.inl z
  · refine Or.inr ⟨z.1, z.2.1, semw_cg z.2.2 (fun p p0 p1 => a5 p (by omega) (by omega)) (fun p p0 p1 => ?_)⟩
    unfold cdR
    rw [if_pos ⟨by omega, by omega⟩]
    exact b5 p (by omega) (by omega)
theorem Inv_enact {mX mF : zMm} {n c : Int} (hI : Inv m) (hrF : Rng mF) (hn : m 247 3 = n) (n1 : n < 12) (iVX : cVer mX (mX 247)) (x3 : mX 247 3 = n) (x0 : mX 247 0 = m 247 0) (hop : ∀ v, 0 ≤ v → v < n → mX 247 (266 + 44 * v + 0) = c → ¬ mX 247 (266 + 44 * v + 2) = -3) (f1 : ∀ k, ¬ (k = 1 ∨ (18 ≤ k ∧ k < 90) ∨ k = 179 ∨ (182 ≤ k ∧ k ≤ 190) ∨ k = 202 ∨ k = 246 ∨ k = 247 ∨ k = 255 ∨ k = 256) → mF k = m k) (f2 : ∀ i, ¬ i = 2 → mF 1 i = m 1 i) (f3 : mF 1 2 = n + 1) (f4 : ∀ k, 18 ≤ k → k < 18 + 6 * n.toNat → mF k = mX k) (f5 : mF 179 1 = 0) (f6 : mF 202 3 = -3) (f7 : mF 202 2 = 1) (g4 : mF 246 4 = 0) (g5 : ∀ i, ¬ (i = 4 ∨ (15 ≤ i ∧ i ≤ 21)) → mF 246 i = m 246 i) (g6 : ∀ i, ¬ (i = 3 ∨ (266 ≤ i ∧ i < 794) ∨ (1297 ≤ i ∧ i < 2737)) → mF 247 i = m 247 i) (g7 : mF 247 3 = n + 1) (g8 : ∀ i, 266 ≤ i → i < 266 + 44 * n → mF 247 i = mX 247 i) (g9 : ∀ i, 1297 ≤ i → i < 1297 + 120 * n → mF 247 i = mX 247 i) (hc : mF 247 (266 + 44 * n + 0) = c) (hbg : mF 247 (266 + 44 * n + 1) = m 247 0) (new : vRow mF (mF 247) n) : Inv mF := by
  obtain ⟨hr, ⟨iN, iG, iP, iH, iS, iD, iT, iO, iU, iR, iV⟩, iK, iL, iF, iB, iA, iW, iX⟩ := id hI
  have bN := iN
  unfold cNum at bN
  have e0 := g6 0 (by omega)
  have e1 := g6 1 (by omega)
  have e2 := g6 2 (by omega)
  have hz2 : nw (mF 247) = nw (m 247) := nw_cg (fun i hi => g6 i (by omega)) (fun i _ _ => by rw [g6 i (by omega)])
  refine ⟨hrF, ⟨?_, ?_, ?_, ?_, ?_, ?_, ?_, ?_, ?_, ?_, ?_⟩, ?_, ?_, ?_, ?_, ?_, ?_, ?_⟩
  · unfold cNum
    rw [f2 0 (by decide), f2 1 (by decide), f3, f1 4 (by omega), f1 6 (by omega), f1 8 (by omega), f1 12 (by omega), f1 14 (by omega), f1 16 (by omega), f1 10 (by omega), g7, e0, e1, e2, g6 4 (by omega), g6 5 (by omega), g6 6 (by omega), g6 7 (by omega), g6 8 (by omega)]
    exact ⟨bN.1, bN.2.1, bN.2.2.1, ⟨rfl, by omega, by omega⟩, bN.2.2.2.2⟩
  · exact cGnd_cg (f1 2 (by omega)) (fun i _ _ => g6 i (by omega)) iG
  · exact cPpl_cg (f1 5 (by omega)) e1 (by omega) (fun i _ _ => g6 i (by omega)) iP
  · exact cHrd_cg (f1 5 (by omega)) (by omega) e1 (by omega) (g6 7 (by omega)) (fun i _ _ => g6 i (by omega)) iH
  · exact cSto_cg (f1 7 (by omega)) e2 (by omega) (fun i _ _ => g6 i (by omega)) iS
  · exact cDee_cg (f1 9 (by omega)) (by omega) (by omega) (g6 4 (by omega)) (by omega) (fun i _ _ => g6 i (by omega)) iD
  · exact cTak_cg (f1 13 (by omega)) (by omega) (by omega) (g6 5 (by omega)) (by omega) (fun i _ _ => g6 i (by omega)) iT
  · exact cPos_cg (f1 15 (by omega)) (g6 6 (by omega)) (by omega) (fun i _ _ => g6 i (by omega)) iO
  · exact cSig_cg (f1 17 (by omega)) (g6 8 (by omega)) (by omega) (fun i _ _ => g6 i (by omega)) iU
  · exact cPor_cg (f1 11 (by omega)) (fun i _ _ => g6 i (by omega)) iR
  · exact ver_add iVX x3 (by omega) n1 (by rw [e0, x0]) g7 f4 g8 g9 new (fun v v0 v1 z => hop v v0 v1 (z.trans hc)) (by rw [hbg, x0])
  · exact Kept_cg (by rw [f1 0 (by omega)]) (g5 2 (by decide)) (fun k _ _ => f1 k (by omega)) (f1 248 (by omega)) iK
  · exact law_stale f6 f7
  · exact RefOK_cg (g5 12 (by decide)) (g5 13 (by decide)) (g5 14 (by decide)) (f1 254 (by omega)) hz2 iF
  · exact beside_cg (f1 192 (by omega)) iB
  · unfold Tape
    rw [f5, g4]
    exact ⟨rfl, Int.le_refl _, by decide, fun i i0 i1 => by omega⟩
  · exact Rows_cg (by rw [f1 230 (by omega)]) (g5 7 (by decide)) (g5 8 (by decide)) (by rw [f1 226 (by omega)]) (by rw [f1 232 (by omega)]) (f1 231 (by omega)) (f1 250 (by omega)) (f1 233 (by omega)) (f1 251 (by omega)) iW
  · exact Host_cg (fun k _ _ => f1 k (by omega)) (by rw [f1 234 (by omega)]) (g5 35 (by decide)) (fun k _ _ => f1 k (by omega)) iX
theorem TB_of (hA : Tape m) : TB (m 180) (m 249) (m 246 4) := ⟨⟨hA.2.1, hA.2.2.1⟩, hA.2.2.2⟩
theorem call_read {c : Int} (hI : Inv m) (hv : e.2 = .null ∨ e.2 = .ref 10301) (hc : wr c = c) : Both (Z e (d + 25) 149 0 [.ref 0, .int (iI c), .retAddr 0] []) (Z e (d' + 26) 242 0 [.ref 246, .int (iI c), .retAddr 0, .retAddr 0, .retAddr 0, .retAddr 0, .retAddr 0] []) m := by
  obtain ⟨hr, ⟨iN, iG, iP, iH, iS, iD, iT, iO, iU, iR, iV⟩, iK, iL, iF, iB, iA, iW, iX⟩ := id hI
  have bN := iN
  unfold cNum at bN
  have w0 : wr 0 = 0 := rfl
  have w1 : wr 1 = 1 := rfl
  obtain ⟨v, m1, a1, a2, a3, a4, a5, a6⟩ := parse_both (e := e) (d := d) (d' := d') hv hr (TB_of iA) rfl iA.1 rfl rfl
  have st1 : Z e (d + 25) 149 0 [.ref 0, .int (iI c), .retAddr 0] [] m = _ := b_149_0
  rw [a1, ri_k, b_149_7, hc] at st1
  have k247 : m1 247 = m 247 := a2.1 247 (by omega)
  have k246 : m1 246 = m 246 := a2.1 246 (by omega)
  by_cases c0 : c < 0 ∨ 3 ≤ c
  · rw [itp c0] at st1
    refine ⟨-1, um m1 179 1 0, um (um m1 179 1 0) 246 4 0, st1, ?_, ?_⟩
    · rw [b_242_0, hc, w0, show wr 2 = 2 from rfl, itn (c := 0 ≤ c ∧ c ≤ 2) (by omega), itn (c := 0 ≤ c ∧ c ≤ 2) (by omega), b_242_23, w0, itp rfl]
    · refine Inv_read hI ((a3.um rfl).um rfl) (fun k hk => ?_) ?_ um_s (fun i hi => ?_)
      · rw [um_r (by omega), um_r (by omega)]; exact a2.1 k (by omega)
      · rw [um_k (by decide), um_s]
      · rw [um_i (by omega), um_k (by decide), k246]
  · have c1 : 0 ≤ c ∧ c ≤ 2 := by omega
    rw [itn c0] at st1
    have ref : ∀ mr : zMm, Z e (d' + 26) 242 0 [.ref 246, .int (iI c), .retAddr 0, .retAddr 0, .retAddr 0, .retAddr 0, .retAddr 0] [] mr = (Z e (d' + 25) 241 0 [.ref 246] [] mr).bind (ZK e (d' + 26) 242 15 [.ref 246, .int (iI c), .int (iI 1), .retAddr 0, .retAddr 0, .retAddr 0, .retAddr 0] [] mr) := fun mr => by
      rw [b_242_0, hc, w0, show wr 2 = 2 from rfl, itp c1, itp c1]
    rcases a4 with v0 | v0
    · -- a fault
      subst v0
      have pb := a5 rfl
      have e7 : um m1 179 1 0 179 7 = m1 179 7 := um_i (by decide)
      have e8 : um m1 179 1 0 184 (m1 179 7) = m1 184 (m1 179 7) := um_k (by decide)
      rw [w0, itp rfl, e7, a3 179 7, ck_t ⟨pb.1, by omega⟩, e8] at st1
      obtain ⟨mm, b1, b2, b3, b4⟩ := a6 (um m1 179 1 0) (a3.um rfl) (by rw [um_r (by decide)]; exact a2.1 249 (by omega)) (by rw [um_k (by decide), k246])
      have b5 : mm 246 15 = m1 184 (m1 179 7) := by
        rcases b4 with z | z
        · exact absurd z.1 (by decide)
        · exact z.2
      refine ⟨-100 - m1 184 (m1 179 7), um m1 179 1 0, um mm 246 4 0, st1, ?_, ?_⟩
      · rw [ref, b1, ri_k, b_242_15, w0, itn (fun z => z rfl), b_242_23, w1, itn (by decide), w0, itp rfl, b5]
      · refine Inv_read hI (b3.um rfl) (fun k hk => ?_) ?_ um_s (fun i hi => ?_)
        · rw [um_r (by omega), b2.1 k (by omega), um_r (by omega)]; exact a2.1 k (by omega)
        · rw [um_k (by decide), b2.1 179 (by decide), um_s]
        · rw [um_i (by omega), b2.2 i (by omega), um_k (by decide), k246]
    · subst v0
      rw [w1, itn (by decide)] at st1
      have m12 : um m1 179 1 0 1 2 = m 247 3 := by rw [um_k (by decide), a2.1 1 (by omega)]; exact bN.2.2.2.1.1
      rw [m12, wr_of (x := m 247 3) (by omega) (by omega)] at st1
      by_cases n1 : m 247 3 < 12
      · -- a new version
        rw [itn (by omega)] at st1
        have fa : ∀ k, ¬ (k = 179 ∨ (182 ≤ k ∧ k ≤ 190) ∨ k = 202) → um (um m1 179 1 0) 202 2 1 k = m k := fun k hk => by rw [um_r (by omega), um_r (by omega)]; exact a2.1 k (by omega)
        have fb : ∀ k, 182 ≤ k → k ≤ 190 → um (um m1 179 1 0) 202 2 1 k = m1 k := fun k h1 h2 => by rw [um_r (by omega), um_r (by omega)]
        have fc : um (um m1 179 1 0) 202 2 1 179 1 = 0 := by rw [um_k (by decide), um_s]
        have fd : um (um m1 179 1 0) 202 2 1 202 2 = 1 := um_s
        have fe : um (um m1 179 1 0) 202 2 1 202 3 = -3 := by rw [um_i (by decide), um_k (by decide), a2.1 202 (by omega)]; exact iL.1
        have ra : Rng (um (um m1 179 1 0) 202 2 1) := (a3.um rfl).um rfl
        generalize um (um m1 179 1 0) 202 2 1 = mA at *
        have A247 : mA 247 = m 247 := fa 247 (by omega)
        have hC : Core mA (mA 247) := by
          rw [A247]
          exact Core_cg (fun k _ _ => fa k (by omega)) (fun _ _ _ => rfl) ⟨iN, iG, iP, iH, iS, iD, iT, iO, iU, iR, iV⟩
        obtain ⟨jN, _, _, _, _, _, _, _, _, _, jV⟩ := hC
        obtain ⟨w, o1, o2⟩ := W_open (e := e) (d := d + 23) ra jN jV hc
        have A12 : mA 1 2 = m 247 3 := by rw [fa 1 (by omega)]; exact bN.2.2.2.1.1
        have A10 : mA 1 0 = m 247 0 := by rw [fa 1 (by omega)]; exact bN.1.1
        rw [b_136_0, A12, wr_of (x := m 247 3) (by omega) (by omega), itn (by omega), o1, ri_k, b_136_17] at st1
        rw [A247] at o2 jV
        -- what is left, from a memory mE behind the end of the old version
        have fin : ∀ (mE mX : zMm) (x : Int), Rng mE → (∀ k, ¬ (18 ≤ k ∧ k < 90) → mE k = mA k) → (∀ k, 18 ≤ k → k < 90 → mE k = mX k) → cVer mX (mX 247) → (∀ i, ¬ (266 ≤ i ∧ i < 794) → mX 247 i = m 247 i) → (∀ v, 0 ≤ v → v < m 247 3 → mX 247 (266 + 44 * v + 0) = c → ¬ mX 247 (266 + 44 * v + 2) = -3) → (Z e (d + 25) 149 0 [.ref 0, .int (iI c), .retAddr 0] [] m = (Z e (d + 24) 136 37 [.ref 1, .int (iI c), .ref 185, .int (iI w), .retAddr 0] [] mE).bind (ZK e (d + 25) 149 78 [.ref 0, .int (iI c), .int (iI 1)] [] mA)) → (∀ mm : zMm, Rng mm → mm 247 = m 247 → mm 246 13 = -1 → ∃ mm2, Z e (d' + 25) 243 0 [.ref 246, .int (iI c), .retAddr 0] [] mm = ri x mm2 ∧ Rng mm2 ∧ (∀ k, ¬ k = 247 → mm2 k = mm k) ∧ mm2 247 = mX 247) → Both (Z e (d + 25) 149 0 [.ref 0, .int (iI c), .retAddr 0] []) (Z e (d' + 26) 242 0 [.ref 246, .int (iI c), .retAddr 0, .retAddr 0, .retAddr 0, .retAddr 0, .retAddr 0] []) m := by
          intro mE mX x rE p1 p2 p3 p4 p5 p6 p7
          obtain ⟨mP, q1, q2, q3, q4, q5, q6, q7, q8, q9, q10, q11⟩ := enact2 (e := e) (d := d + 23) (mE := mE) (c := c) (n := m 247 3) (u3 := .int (iI w)) (u4 := .retAddr 0) cat_i rE (by rw [p1 1 (by omega)]; exact A12) (by omega) n1 hc
          rw [q1, ri_k, b_149_78] at p6
          have tn : 18 + 6 * (m 247 3).toNat + 5 < 90 := by omega
          have P249 : mP 249 = m 249 := by rw [q3 249 (by decide) (by omega), p1 249 (by omega)]; exact fa 249 (by omega)
          have P246 : mP 246 = m 246 := by rw [q3 246 (by decide) (by omega), p1 246 (by omega)]; exact fa 246 (by omega)
          have P247 : mP 247 = m 247 := by rw [q3 247 (by decide) (by omega), p1 247 (by omega)]; exact A247
          obtain ⟨mm, b1, b2, b3, b4⟩ := a6 mP q2 P249 (by rw [P246])
          have dr : DR m1 mm := by
            rcases b4 with z | z
            · exact z.2
            · exact absurd z.1 (by decide)
          have M247 : um mm 246 4 0 247 = m 247 := by rw [um_r (by decide), b2.1 247 (by decide)]; exact P247
          obtain ⟨mm2, s1, s2, s3, s4⟩ := p7 (um mm 246 4 0) (b3.um rfl) M247 (by rw [um_i (by decide), b2.2 13 (by decide), P246]; exact iF.1)
          obtain ⟨y, y', l, h1, h2, h3, h4, h5, h6, h7⟩ := id dr
          obtain ⟨mF, t1, t2, t3, t4, t5, t6, t7, t8, t9, t10, t11⟩ := M_add (e := e) (d := d' + 25) (mm := mm2) (c := c) (n := m 247 3) (x := x) (c' := y') (l := l) (u2 := .int (iI 1)) (u3 := .int (iI 1)) (u4 := .int (iI (mm 246 15))) (u6 := .retAddr 0) s2 (by rw [s4]; exact p4 3 (by omega)) (by omega) n1 hc (by rw [s3 246 (by decide), um_i (by decide)]; exact h4) (by omega) (by omega) (by rw [s3 246 (by decide), um_i (by decide)]; exact h3)
          have e3 : um mm 246 4 0 247 3 = m 247 3 := by rw [M247]
          have G : ∀ k, ¬ (k = 246 ∨ k = 247 ∨ k = 255 ∨ k = 256) → mF k = mP k := fun k hk => by rw [t3 k (by omega), s3 k (by omega), um_r (by omega)]; exact b2.1 k (by omega)
          have H : ∀ k, ¬ (k = 246 ∨ k = 247 ∨ k = 255 ∨ k = 256) → ¬ k = 1 → ¬ (18 + 6 * (m 247 3).toNat ≤ k ∧ k ≤ 18 + 6 * (m 247 3).toNat + 5) → mF k = mE k := fun k k1 k2 k3 => (G k k1).trans (q3 k k2 k3)
          have f0 : mF 247 0 = m 247 0 := by rw [t4 0 (by omega) (by omega) (by omega), s4]; exact p4 0 (by omega)
          refine ⟨m 247 3, mP, mF, p6, ?_, ?_⟩
          · rw [ref, b1, ri_k, b_242_15, w1, itp (by decide), b_242_23, w1, itn (by decide), itn (by decide), e3, wr_of (x := m 247 3) (by omega) (by omega), itn (by omega), s1, ri_k]
            exact t1
          · refine Inv_enact (mX := mX) (n := m 247 3) (c := c) hI t2 rfl n1 p3 (p4 3 (by omega)) (p4 0 (by omega)) p5 (fun k hk => ?_) (fun i hi => ?_) ?_ (fun k k1 k2 => ?_) ?_ ?_ ?_ ?_ (fun i hi => ?_) (fun i hi => ?_) t5 (fun i i0 i1 => ?_) (fun i i0 i1 => ?_) t6 ?_ ?_
            · rw [H k (by omega) (by omega) (by omega), p1 k (by omega)]; exact fa k (by omega)
            · rw [G 1 (by decide), q4 i hi, p1 1 (by omega), fa 1 (by omega)]
            · rw [G 1 (by decide)]; exact q5
            · rw [H k (by omega) (by omega) (by omega)]; exact p2 k k1 (by omega)
            · rw [H 179 (by decide) (by decide) (by omega), p1 179 (by omega)]; exact fc
            · rw [H 202 (by decide) (by decide) (by omega), p1 202 (by omega)]; exact fe
            · rw [H 202 (by decide) (by decide) (by omega), p1 202 (by omega)]; exact fd
            · rw [t3 246 (by decide), s3 246 (by decide), um_s]
            · rw [t3 246 (by decide), s3 246 (by decide), um_i (by omega), b2.2 i (by omega), P246]
            · rw [t4 i (by omega) (by omega) (by omega), s4]; exact p4 i (by omega)
            · rw [t4 i (by omega) (by omega) (by omega), s4]
            · rw [t4 i (by omega) (by omega) (by omega), s4]
            · rw [t7, s4]; exact p4 0 (by omega)
            · refine new_row (F := m1) (F' := mF) (N := mm) (M := mF 247) (c := c) (n := m 247 3) dr (by omega) n1 c1.1 c1.2 (by omega) ?_ ?_ ?_ ?_ (fun i i0 i1 => ?_) (fun i i0 i1 => ?_) t6 ?_ t8 ?_ (fun j j0 j1 => ?_) (fun j j0 j1 => ?_)
              · rw [G _ (by omega)]; exact q6
              · rw [G _ (by omega), q7, p1 1 (by omega), f0]; exact A10
              · rw [G _ (by omega)]; exact q8
              · rw [G _ (by omega), q9, p1 185 (by omega), fb 185 (by decide) (by decide)]
              · rw [G _ (by omega), G _ (by omega), G _ (by omega), G _ (by omega), ← fb 186 (by decide) (by decide), ← fb 187 (by decide) (by decide), ← fb 188 (by decide) (by decide), ← fb 189 (by decide) (by decide), ← p1 186 (by omega), ← p1 187 (by omega), ← p1 188 (by omega), ← p1 189 (by omega)]; exact q10 i i0 i1
              · rw [G _ (by omega), ← fb 190 (by decide) (by decide), ← p1 190 (by omega)]; exact q11 i i0 i1
              · rw [t7, s4, f0]; exact p4 0 (by omega)
              · rw [t9]; exact h3.symm
              · rw [t10 j j0 j1, s3 255 (by decide), um_k (by decide)]
              · rw [t11 j j0 (by omega), s3 256 (by decide), um_k (by decide)]
        rcases o2 with ⟨ow, o3⟩ | ⟨v0, v1, o3, o4, o5⟩
        · rw [ow, show wr (-3) = -3 from rfl, itn (fun z => z rfl), ← ow] at st1
          refine fin mA m (-1) ra (fun _ _ => rfl) (fun k _ _ => fa k (by omega)) iV (fun _ _ => rfl) (fun v g0 g1 g2 g3 => ?_) st1 (fun mm r1 e1 e13 => ⟨mm, ?_, r1, fun _ _ => rfl, e1⟩)
          · have := vOf_one (N := m 247) (o := -1) (c := c) (h := m 247 0) g0 g1 ⟨g2, (now_inF iV rfl g0 g1).mpr g3⟩ (fun v' k0 k1 k2 k3 => by
              have k4 := (now_inF iV rfl k0 k1).mp k3.2
              by_cases hlt : v' < v
              · exact (iV.2 v' v k0 hlt g1 (by rw [k3.1, g2])).1 k4
              · exact (iV.2 v v' g0 (by omega) k1 (by rw [k3.1, g2])).1 g3)
            omega
          · have h := M_inForce (e := e) (d := d' + 22) (m := mm) (c := c) (h := mm 247 0) r1 (by rw [e1]; omega) hc (r1 _ _)
            rw [e13, e1, o3] at h
            rw [b_243_0, e1, h, ri_k, b_243_11 cat_i, show wr (-1) = -1 from rfl, itn (by decide)]
        · rw [wr_of (x := w) (by omega) (by omega), itp (by omega), ck_t (by omega), A10] at st1
          have key : ∀ k, 18 ≤ k → k < 90 → um mA (18 + 6 * w.toNat) 2 (m 247 0) k = um (um m (18 + 6 * w.toNat) 2 (m 247 0)) 247 (266 + 44 * w + 2) (m 247 0) k := fun k h1 h2 => by
            rw [um_r (m := um m (18 + 6 * w.toNat) 2 (m 247 0)) (by omega)]
            funext j
            by_cases z : k = 18 + 6 * w.toNat
            · subst z
              by_cases y : j = 2
              · subst y; rw [um_s, um_s]
              · rw [um_i y, um_i y, fa _ (by omega)]
            · rw [um_k z, um_k z, fa k (by omega)]
          have xn : ∀ i, ¬ i = 266 + 44 * w + 2 → um (um m (18 + 6 * w.toNat) 2 (m 247 0)) 247 (266 + 44 * w + 2) (m 247 0) 247 i = m 247 i := fun i hi => by rw [um_i hi, um_k (by omega)]
          refine fin (um mA (18 + 6 * w.toNat) 2 (m 247 0)) (um (um m (18 + 6 * w.toNat) 2 (m 247 0)) 247 (266 + 44 * w + 2) (m 247 0)) w (ra.um (hr 247 0)) (fun k hk => um_r (by omega)) key ?_ (fun i hi => xn i (by omega)) (fun v g0 g1 g2 g3 => ?_) st1 (fun mm r1 e1 e13 => ?_)
          · refine ver_end iN iV v0 v1 o5 (fun k k1 k2 k3 => by rw [um_r (by omega), um_r k3]) (fun i hi => by rw [um_k (by omega), um_i hi]) (by rw [um_k (by omega), um_s]) xn um_s
          · by_cases z : v = w
            · subst z
              rw [um_s] at g3
              omega
            · rw [xn _ (by omega)] at g2 g3
              by_cases hlt : v < w
              · exact (iV.2 v w g0 hlt v1 (by rw [g2, o4])).1 g3
              · exact (iV.2 w v v0 (by omega) g1 (by rw [g2, o4])).1 o5
          · have h := M_inForce (e := e) (d := d' + 22) (m := mm) (c := c) (h := mm 247 0) r1 (by rw [e1]; omega) hc (r1 _ _)
            rw [e13, e1, o3] at h
            refine ⟨um mm 247 (266 + 44 * w + 2) (m 247 0), ?_, r1.um (hr 247 0), fun k hk => um_r hk, ?_⟩
            · rw [b_243_0, e1, h, ri_k, b_243_11 cat_i, wr_of (x := w) (by omega) (by omega), itp v0, wr_of (x := 266 + 44 * w + 2) (by omega) (by omega), ck_t (by omega), e1]
            · funext j
              by_cases y : j = 266 + 44 * w + 2
              · subst y; rw [um_s, um_s]
              · rw [um_i y, um_i y, um_k (by omega), e1]
      · -- no room
        rw [itp (by omega)] at st1
        obtain ⟨mm, b1, b2, b3, b4⟩ := a6 (um m1 179 1 0) (a3.um rfl) (by rw [um_r (by decide)]; exact a2.1 249 (by omega)) (by rw [um_k (by decide), k246])
        have e3 : um mm 246 4 0 247 3 = m 247 3 := by rw [um_k (by decide), b2.1 247 (by decide), um_k (by decide), k247]
        refine ⟨-2, um m1 179 1 0, um mm 246 4 0, st1, ?_, ?_⟩
        · rw [ref, b1, ri_k, b_242_15, w1, itp (by decide), b_242_23, w1, itn (by decide), itn (by decide), e3, wr_of (x := m 247 3) (by omega) (by omega), itp (by omega)]
        · refine Inv_read hI (b3.um rfl) (fun k hk => ?_) ?_ um_s (fun i hi => ?_)
          · rw [um_r (by omega), b2.1 k (by omega), um_r (by omega)]; exact a2.1 k (by omega)
          · rw [um_k (by decide), b2.1 179 (by decide), um_s]
          · rw [um_i (by omega), b2.2 i (by omega), um_k (by decide), k246]
end SS
