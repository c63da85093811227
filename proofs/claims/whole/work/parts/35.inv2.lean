/-! What doesn't change. -/
section CG
variable {F F' : zMm} {N N' : Int → Int} {m m' : zMm}
theorem cNum_cg (h1 : F' 1 = F 1) (h4 : F' 4 = F 4) (h6 : F' 6 = F 6) (h8 : F' 8 = F 8) (h12 : F' 12 = F 12) (h14 : F' 14 = F 14) (h16 : F' 16 = F 16) (h10 : F' 10 = F 10) (hN : ∀ i, 0 ≤ i → i < 10 → N' i = N i) (h : cNum F N) : cNum F' N' := by
  unfold cNum at h ⊢
  rw [h1, h4, h6, h8, h12, h14, h16, h10, hN 0 (by decide) (by decide), hN 1 (by decide) (by decide), hN 2 (by decide) (by decide), hN 3 (by decide) (by decide), hN 4 (by decide) (by decide), hN 5 (by decide) (by decide), hN 6 (by decide) (by decide), hN 7 (by decide) (by decide), hN 8 (by decide) (by decide)]
  exact h
theorem cGnd_cg (h2 : F' 2 = F 2) (hN : ∀ i, 10 ≤ i → i < 110 → N' i = N i) (h : cGnd F N) : cGnd F' N' := by
  intro c g1 g2
  rw [h2, hN _ (by omega) (by omega)]
  exact h c g1 g2
theorem pRow_cg {p : Int} (h5 : ∀ f, 0 ≤ f → f < 9 → F' 5 (p * 18 + f) = F 5 (p * 18 + f)) (hN : ∀ f, 0 ≤ f → f < 9 → N' (110 + 9 * p + f) = N (110 + 9 * p + f)) (h : pRow F N p) : pRow F' N' p := by
  unfold pRow at h ⊢
  rw [hN 0 (by decide) (by decide), hN 1 (by decide) (by decide), hN 2 (by decide) (by decide), hN 3 (by decide) (by decide), hN 4 (by decide) (by decide), hN 7 (by decide) (by decide)]
  refine ⟨fun f g1 g2 => ?_, h.2⟩
  rw [h5 f g1 g2, hN f g1 g2]
  exact h.1 f g1 g2
theorem cPpl_cg (h5 : F' 5 = F 5) (h1 : N' 1 = N 1) (hb : N 1 ≤ 16) (hN : ∀ i, 110 ≤ i → i < 254 → N' i = N i) (h : cPpl F N) : cPpl F' N' := by
  intro p g1 g2
  rw [h1] at g2
  exact pRow_cg (fun f _ _ => by rw [h5]) (fun f _ _ => hN _ (by omega) (by omega)) (h p g1 g2)
theorem hRow_cg {p : Int} (h5 : ∀ b, 0 ≤ b → b < 8 → F' 5 (p * 18 + (10 + b)) = F 5 (p * 18 + (10 + b))) (h0 : N 0 ≤ N' 0) (h7 : N' 7 = N 7) (hN : ∀ b, 0 ≤ b → b < 8 → N' (1106 + 8 * p + b) = N (1106 + 8 * p + b)) (h : hRow F N p) : hRow F' N' p := by
  intro b g1 g2
  have q := h b g1 g2
  rw [h5 b g1 g2, hN b g1 g2, h7]
  refine ⟨q.1, ?_, q.2.2⟩
  have := q.2.1
  omega
theorem cHrd_cg (h5 : F' 5 = F 5) (h0 : N 0 ≤ N' 0) (h1 : N' 1 = N 1) (hb : N 1 ≤ 16) (h7 : N' 7 = N 7) (hN : ∀ i, 1106 ≤ i → i < 1234 → N' i = N i) (h : cHrd F N) : cHrd F' N' := by
  intro p g1 g2
  rw [h1] at g2
  exact hRow_cg (fun b _ _ => by rw [h5]) h0 h7 (fun b _ _ => hN _ (by omega) (by omega)) (h p g1 g2)
theorem cSto_cg (h7 : F' 7 = F 7) (h2 : N' 2 = N 2) (hb : N 2 ≤ 6) (hN : ∀ i, 254 ≤ i → i < 266 → N' i = N i) (h : cSto F N) : cSto F' N' := by
  intro s g1 g2
  rw [h2] at g2
  rw [h7, hN _ (by omega) (by omega), hN (254 + 2 * s + 1) (by omega) (by omega)]
  exact h s g1 g2
theorem dRow_cg {q : Int} (h9 : ∀ f, 0 ≤ f → f < 6 → F' 9 (q * 6 + f) = F 9 (q * 6 + f)) (h0 : N 0 ≤ N' 0) (h1 : N 1 ≤ N' 1) (hN : ∀ f, 0 ≤ f → f < 6 → N' (794 + 6 * q + f) = N (794 + 6 * q + f)) (h : dRow F N q) : dRow F' N' q := by
  unfold dRow at h ⊢
  rw [hN 0 (by decide) (by decide), hN 1 (by decide) (by decide), hN 2 (by decide) (by decide), hN 3 (by decide) (by decide), hN 4 (by decide) (by decide), hN 5 (by decide) (by decide)]
  refine ⟨fun f g1 g2 => ?_, ?_⟩
  · rw [h9 f g1 g2, hN f g1 g2]
    exact h.1 f g1 g2
  · have := h.2
    omega
theorem cDee_cg (h9 : F' 9 = F 9) (h0 : N 0 ≤ N' 0) (h1 : N 1 ≤ N' 1) (h4 : N' 4 = N 4) (hb : N 4 ≤ 24) (hN : ∀ i, 794 ≤ i → i < 938 → N' i = N i) (h : cDee F N) : cDee F' N' := by
  intro q g1 g2
  rw [h4] at g2
  exact dRow_cg (fun f _ _ => by rw [h9]) h0 h1 (fun f _ _ => hN _ (by omega) (by omega)) (h q g1 g2)
theorem tRow_cg {t : Int} (h9 : ∀ f, 0 ≤ f → f < 7 → F' 13 (t * 7 + f) = F 13 (t * 7 + f)) (h0 : N 0 ≤ N' 0) (h1 : N 1 ≤ N' 1) (hN : ∀ f, 0 ≤ f → f < 7 → N' (938 + 7 * t + f) = N (938 + 7 * t + f)) (h : tRow F N t) : tRow F' N' t := by
  unfold tRow at h ⊢
  rw [hN 1 (by decide) (by decide), hN 2 (by decide) (by decide), hN 3 (by decide) (by decide), hN 5 (by decide) (by decide), hN 6 (by decide) (by decide), h9 6 (by decide) (by decide)]
  refine ⟨fun f g1 g2 => ?_, h.2.1, ?_⟩
  · rw [h9 f g1 (by omega), hN f g1 (by omega)]
    exact h.1 f g1 g2
  · have := h.2.2
    omega
theorem cTak_cg (h13 : F' 13 = F 13) (h0 : N 0 ≤ N' 0) (h1 : N 1 ≤ N' 1) (h5 : N' 5 = N 5) (hb : N 5 ≤ 16) (hN : ∀ i, 938 ≤ i → i < 1050 → N' i = N i) (h : cTak F N) : cTak F' N' := by
  intro q g1 g2
  rw [h5] at g2
  exact tRow_cg (fun f _ _ => by rw [h13]) h0 h1 (fun f _ _ => hN _ (by omega) (by omega)) (h q g1 g2)
theorem oRow_cg {p : Int} (h15 : ∀ f, 0 ≤ f → f < 3 → F' 15 (p * 3 + f) = F 15 (p * 3 + f)) (hN : ∀ f, 0 ≤ f → f < 4 → N' (1050 + 4 * p + f) = N (1050 + 4 * p + f)) (h : oRow F N p) : oRow F' N' p := by
  have e0 : N' (1050 + 4 * p) = N (1050 + 4 * p) := by have := hN 0 (by decide) (by decide); rwa [Int.add_zero] at this
  unfold oRow at h ⊢
  rw [e0, hN 1 (by decide) (by decide), hN 2 (by decide) (by decide), hN 3 (by decide) (by decide), h15 0 (by decide) (by decide), h15 1 (by decide) (by decide), h15 2 (by decide) (by decide)]
  exact h
theorem cPos_cg (h15 : F' 15 = F 15) (h6 : N' 6 = N 6) (hb : N 6 ≤ 8) (hN : ∀ i, 1050 ≤ i → i < 1082 → N' i = N i) (h : cPos F N) : cPos F' N' := by
  intro q g1 g2
  rw [h6] at g2
  exact oRow_cg (fun f _ _ => by rw [h15]) (fun f _ _ => hN _ (by omega) (by omega)) (h q g1 g2)
theorem cSig_cg (h17 : F' 17 = F 17) (h8 : N' 8 = N 8) (hb : N 8 ≤ 16) (hN : ∀ i, 1234 ≤ i → i < 1282 → N' i = N i) (h : cSig F N) : cSig F' N' := by
  intro s g1 g2
  rw [h8] at g2
  have q := h s g1 g2
  rw [h17, hN (1234 + 3 * s + 0) (by omega) (by omega), hN (1234 + 3 * s + 1) (by omega) (by omega), hN (1234 + 3 * s + 2) (by omega) (by omega)]
  exact ⟨fun f g3 g4 => by rw [hN _ (by omega) (by omega)]; exact q.1 f g3 g4, q.2⟩
theorem cPor_cg (h11 : F' 11 = F 11) (hN : ∀ i, 1282 ≤ i → i < 1297 → N' i = N i) (h : cPor F N) : cPor F' N' := by
  intro s g1 g2
  have q := h s g1 g2
  rw [h11, hN (1282 + 3 * s + 0) (by omega) (by omega), hN (1282 + 3 * s + 1) (by omega) (by omega), hN (1282 + 3 * s + 2) (by omega) (by omega)]
  exact ⟨fun f g3 g4 => by rw [hN _ (by omega) (by omega)]; exact q.1 f g3 g4, q.2⟩
theorem cdR_cg {v : Int} (h0 : 0 ≤ v) (h1 : v < 12) (hN : ∀ i, 1297 ≤ i → i < 2737 → N' i = N i) : cdR N' v = cdR N v := by
  funext k
  unfold cdR
  by_cases hk : 0 ≤ k ∧ k < 120
  · rw [if_pos hk, if_pos hk, hN _ (by omega) (by omega)]
  · rw [if_neg hk, if_neg hk]
theorem vRow_cg {v : Int} (h0 : 0 ≤ v) (h1 : v < 12) (hF : ∀ k, 18 + 6 * v.toNat ≤ k → k < 24 + 6 * v.toNat → F' k = F k) (hm : N 0 ≤ N' 0) (hN : ∀ i, 266 + 44 * v ≤ i → i < 310 + 44 * v → N' i = N i) (hC : cdR N' v = cdR N v) (h : vRow F N v) : vRow F' N' v := by
  unfold vRow at h ⊢
  rw [hF _ (by omega) (by omega), hN (266 + 44 * v + 0) (by omega) (by omega), hN (266 + 44 * v + 1) (by omega) (by omega), hN (266 + 44 * v + 2) (by omega) (by omega), hN (266 + 44 * v + 3) (by omega) (by omega)]
  obtain ⟨q1, q2, q3, q4, q5⟩ := h
  refine ⟨q1, ⟨q2.1, q2.2.1, by omega⟩, ⟨q3.1, by have := q3.2; omega⟩, q4, fun l g1 g2 => ?_⟩
  have q := q5 l g1 g2
  unfold lRow at q ⊢
  rw [hC, hF (18 + 6 * v.toNat + 1) (by omega) (by omega), hF (18 + 6 * v.toNat + 2) (by omega) (by omega), hF (18 + 6 * v.toNat + 3) (by omega) (by omega), hF (18 + 6 * v.toNat + 4) (by omega) (by omega), hF (18 + 6 * v.toNat + 5) (by omega) (by omega), hN (266 + 44 * v + (4 + 4 * l)) (by omega) (by omega), hN (266 + 44 * v + (4 + 4 * l + 1)) (by omega) (by omega), hN (266 + 44 * v + (4 + 4 * l + 2)) (by omega) (by omega), hN (266 + 44 * v + (4 + 4 * l + 3)) (by omega) (by omega)]
  exact q
theorem cVer_cg (hF : ∀ k, 18 ≤ k → k < 90 → F' k = F k) (hm : N 0 ≤ N' 0) (h3 : N' 3 = N 3) (hb : N 3 ≤ 12) (hN : ∀ i, 266 ≤ i → i < 794 → N' i = N i) (hC : ∀ i, 1297 ≤ i → i < 2737 → N' i = N i) (h : cVer F N) : cVer F' N' := by
  refine ⟨fun v g1 g2 => ?_, fun v1 v2 g1 g2 g3 g4 => ?_⟩
  · rw [h3] at g2
    exact vRow_cg g1 (by omega) (fun k _ _ => hF k (by omega) (by omega)) hm (fun i _ _ => hN i (by omega) (by omega)) (cdR_cg g1 (by omega) hC) (h.1 v g1 g2)
  · rw [h3] at g3
    rw [hN _ (by omega) (by omega), hN _ (by omega) (by omega)] at g4
    rw [hN _ (by omega) (by omega), hN _ (by omega) (by omega)]
    exact h.2 v1 v2 g1 g2 g3 g4
theorem Core_cg (hF : ∀ k, 1 ≤ k → k < 90 → F' k = F k) (hN : ∀ i, 0 ≤ i → i < 2737 → N' i = N i) (h : Core F N) : Core F' N' := by
  obtain ⟨iN, iG, iP, iH, iS, iD, iT, iO, iU, iR, iV⟩ := h
  have e0 := hN 0 (by decide) (by decide)
  have e1 := hN 1 (by decide) (by decide)
  have b := iN
  unfold cNum at b
  refine ⟨cNum_cg (hF _ (by decide) (by decide)) (hF _ (by decide) (by decide)) (hF _ (by decide) (by decide)) (hF _ (by decide) (by decide)) (hF _ (by decide) (by decide)) (hF _ (by decide) (by decide)) (hF _ (by decide) (by decide)) (hF _ (by decide) (by decide)) (fun i _ _ => hN i (by omega) (by omega)) iN, cGnd_cg (hF _ (by decide) (by decide)) (fun i _ _ => hN i (by omega) (by omega)) iG, cPpl_cg (hF _ (by decide) (by decide)) e1 (by omega) (fun i _ _ => hN i (by omega) (by omega)) iP, cHrd_cg (hF _ (by decide) (by decide)) (by omega) e1 (by omega) (hN _ (by decide) (by decide)) (fun i _ _ => hN i (by omega) (by omega)) iH, cSto_cg (hF _ (by decide) (by decide)) (hN _ (by decide) (by decide)) (by omega) (fun i _ _ => hN i (by omega) (by omega)) iS, cDee_cg (hF _ (by decide) (by decide)) (by omega) (by omega) (hN _ (by decide) (by decide)) (by omega) (fun i _ _ => hN i (by omega) (by omega)) iD, cTak_cg (hF _ (by decide) (by decide)) (by omega) (by omega) (hN _ (by decide) (by decide)) (by omega) (fun i _ _ => hN i (by omega) (by omega)) iT, cPos_cg (hF _ (by decide) (by decide)) (hN _ (by decide) (by decide)) (by omega) (fun i _ _ => hN i (by omega) (by omega)) iO, cSig_cg (hF _ (by decide) (by decide)) (hN _ (by decide) (by decide)) (by omega) (fun i _ _ => hN i (by omega) (by omega)) iU, cPor_cg (hF _ (by decide) (by decide)) (fun i _ _ => hN i (by omega) (by omega)) iR, cVer_cg (fun k _ _ => hF k (by omega) (by omega)) (by omega) (hN _ (by decide) (by decide)) (by omega) (fun i _ _ => hN i (by omega) (by omega)) (fun i _ _ => hN i (by omega) (by omega)) iV⟩
theorem Kept_cg (h0 : m' 0 9 = m 0 9) (h2 : m' 246 2 = m 246 2) (hF : ∀ k, 90 ≤ k → k < 179 → m' k = m k) (h248 : m' 248 = m 248) (h : Kept m) : Kept m' := by
  unfold Kept at h ⊢
  rw [h0, h2, h248]
  refine ⟨h.1, ?_⟩
  rcases h.2 with q | ⟨q1, q2⟩
  · exact Or.inl q
  · exact Or.inr ⟨q1, Core_cg (fun k _ _ => hF _ (by omega) (by omega)) (fun _ _ _ => rfl) q2⟩
theorem nz_cg (hN : ∀ i, i = 2 ∨ i = 3 ∨ i = 4 ∨ (254 ≤ i ∧ i < 938) → N' i = N i) (hW : ∀ i, 10 ≤ i → i < 110 → (N' i = 1 ↔ N i = 1)) : nz N' = nz N := by
  funext i
  unfold nz
  by_cases h1 : i = 2 ∨ i = 3 ∨ i = 4 ∨ (254 ≤ i ∧ i < 938)
  · rw [if_pos h1, if_pos h1, hN i h1]
  · rw [if_neg h1, if_neg h1]
    by_cases h2 : 10 ≤ i ∧ i < 110
    · rw [if_pos h2, if_pos h2]
      simp only [hW i h2.1 h2.2]
    · rw [if_neg h2, if_neg h2]
theorem nw_cg (hN : ∀ i, i = 2 ∨ (254 ≤ i ∧ i < 266) → N' i = N i) (hW : ∀ i, 10 ≤ i → i < 110 → (N' i = 1 ↔ N i = 1)) : nw N' = nw N := by
  funext i
  unfold nw
  by_cases h1 : i = 2 ∨ (254 ≤ i ∧ i < 266)
  · rw [if_pos h1, if_pos h1, hN i h1]
  · rw [if_neg h1, if_neg h1]
    by_cases h2 : 10 ≤ i ∧ i < 110
    · rw [if_pos h2, if_pos h2]
      simp only [hW i h2.1 h2.2]
    · rw [if_neg h2, if_neg h2]
theorem LawOK_cg (h202 : m' 202 = m 202) (h204 : m' 204 = m 204) (h205 : m' 205 = m 205) (hF : ∀ k, 196 ≤ k → k < 202 → m' k = m k) (h2 : m 247 2 ≤ 6) (hz : nz (m' 247) = nz (m 247)) (h : LawOK m) : LawOK m' := by
  unfold LawOK at h ⊢
  rw [h202, hz]
  refine ⟨h.1, ?_⟩
  rcases h.2 with q | ⟨q1, q2⟩
  · exact Or.inl q
  · refine Or.inr ⟨q1, ?_⟩
    unfold LawC at q2 ⊢
    rw [h204, h205]
    refine ⟨fun s g1 g2 => ?_, q2.2⟩
    have g3 : nz (m 247) 2 = m 247 2 := if_pos (Or.inl rfl)
    rw [hF (196 + s.toNat) (by omega) (by omega)]
    exact q2.1 s g1 g2
theorem RefOK_cg (h12 : m' 246 12 = m 246 12) (h13 : m' 246 13 = m 246 13) (h14 : m' 246 14 = m 246 14) (h254 : m' 254 = m 254) (hz : nw (m' 247) = nw (m 247)) (h : RefOK m) : RefOK m' := by
  unfold RefOK RefC at h ⊢
  rw [h12, h13, h14, h254, hz]
  exact h
theorem beside_cg (h : m' 192 = m 192) (hb : beside m) : beside m' := by
  unfold beside at hb ⊢
  rw [h]
  exact hb
theorem Tape_cg (h1 : m' 179 1 = m 179 1) (h2 : m' 246 4 = m 246 4) (h3 : m' 180 = m 180) (h4 : m' 249 = m 249) (h : Tape m) : Tape m' := by
  unfold Tape at h ⊢
  rw [h1, h2, h3, h4]
  exact h
theorem Rows_cg (h1 : m' 230 3 = m 230 3) (h2 : m' 246 7 = m 246 7) (h3 : m' 246 8 = m 246 8) (h4 : m' 226 8 = m 226 8) (h5 : m' 232 3 = m 232 3) (h6 : m' 231 = m 231) (h7 : m' 250 = m 250) (h8 : m' 233 = m 233) (h9 : m' 251 = m 251) (h : Rows m) : Rows m' := by
  unfold Rows at h ⊢
  rw [h1, h2, h3, h4, h5, h6, h7, h8, h9]
  exact h
theorem Host_cg (hF : ∀ k, 235 ≤ k → k < 246 → m' k = m k) (h8 : m' 234 8 = m 234 8) (h35 : m' 246 35 = m 246 35) (hG : ∀ k, 261 ≤ k → k < 268 → m' k = m k) (h : Host m) : Host m' := by
  unfold Host at h ⊢
  rw [h8, h35, hF 235 (by decide) (by decide), hF 236 (by decide) (by decide), hF 242 (by decide) (by decide), hF 243 (by decide) (by decide), hF 244 (by decide) (by decide), hF 245 (by decide) (by decide), hG 261 (by decide) (by decide), hG 262 (by decide) (by decide), hG 263 (by decide) (by decide), hG 264 (by decide) (by decide), hG 265 (by decide) (by decide), hG 266 (by decide) (by decide), hG 267 (by decide) (by decide)]
  refine ⟨fun s g1 g2 => ?_, h.2⟩
  rw [hF (238 + s.toNat) (by omega) (by omega)]
  exact h.1 s g1 g2
end CG
