/-! The run: its steps. -/
def okP (N : Int → Int) (to lg n c s : Int) : Prop := okS N c s ∧ aV N to lg (59 - n).toNat (nbr c s) < 1000000 ∧ aV N to lg (59 - n).toNat (nbr c s) + 1 + 1000 * sFd N lg n (nbr c s) = aV N to lg (60 - n).toNat c
noncomputable def nxP (N : Int → Int) (to lg n c : Int) : Int := cif (okP N to lg n c 0) (nbr c 0) (cif (okP N to lg n c 1) (nbr c 1) (cif (okP N to lg n c 2) (nbr c 2) (cif (okP N to lg n c 3) (nbr c 3) (-1))))
noncomputable def pcS (N : Int → Int) (to lg fr : Int) : Nat → Int
  | 0 => fr
  | n + 1 => nxP N to lg n (pcS N to lg fr n)
section RP
variable {e : List Int32 × Value} {d : Nat} {m : zMm} {N : Int → Int} {to lg fr : Int} {w : Int → Int}
theorem nxP_ex {n c : Int} (n0 : 0 ≤ n) (n1 : n < 60) (hv : aV N to lg (60 - n).toNat c < 1000000) (hc : ¬ (c = to ∧ ¬ wall N c)) : ∃ s, 0 ≤ s ∧ s < 4 ∧ okP N to lg n c s ∧ nxP N to lg n c = nbr c s := by
  have ex : ∃ s, 0 ≤ s ∧ s < 4 ∧ okP N to lg n c s := by
    obtain ⟨k, hk⟩ : ∃ k : Nat, (60 - n).toNat = k + 1 := ⟨(60 - n).toNat - 1, by omega⟩
    have hk1 : (59 - n).toNat = k := by omega
    have hk2 : (59 - (k : Int)) = n := by omega
    have e1 : aV N to lg (60 - n).toNat c = itr (fun s x => cif (okS N c s ∧ aV N to lg k (nbr c s) < 1000000) (min x (aV N to lg k (nbr c s) + 1 + 1000 * sFd N lg n (nbr c s))) x) 0 4 1000000 := by
      rw [hk, aV, cif_f hc, hk2]
    have q := itr_I (I := fun x : Int => x = 1000000 ∨ ∃ s, 0 ≤ s ∧ s < 4 ∧ (okS N c s ∧ aV N to lg k (nbr c s) < 1000000) ∧ x = aV N to lg k (nbr c s) + 1 + 1000 * sFd N lg n (nbr c s)) (f := fun s x => cif (okS N c s ∧ aV N to lg k (nbr c s) < 1000000) (min x (aV N to lg k (nbr c s) + 1 + 1000 * sFd N lg n (nbr c s))) x) 4 0 1000000 (Or.inl rfl) (fun s y s0 s1 hy => by
      by_cases q : okS N c s ∧ aV N to lg k (nbr c s) < 1000000
      · rw [cif_t q]
        by_cases le : y ≤ aV N to lg k (nbr c s) + 1 + 1000 * sFd N lg n (nbr c s)
        · rw [show min y (aV N to lg k (nbr c s) + 1 + 1000 * sFd N lg n (nbr c s)) = y by omega]; exact hy
        · rw [show min y (aV N to lg k (nbr c s) + 1 + 1000 * sFd N lg n (nbr c s)) = aV N to lg k (nbr c s) + 1 + 1000 * sFd N lg n (nbr c s) by omega]
          exact Or.inr ⟨s, s0, by omega, q, rfl⟩
      · rw [cif_f q]; exact hy)
    rw [← e1] at q
    rcases q with z | ⟨s, s0, s1, z, y⟩
    · omega
    · refine ⟨s, s0, s1, z.1, ?_, ?_⟩
      · rw [hk1]; exact z.2
      · rw [hk1]; exact y.symm
  unfold nxP
  by_cases h0 : okP N to lg n c 0
  · rw [cif_t h0]; exact ⟨0, by decide, by decide, h0, rfl⟩
  · rw [cif_f h0]
    by_cases h1 : okP N to lg n c 1
    · rw [cif_t h1]; exact ⟨1, by decide, by decide, h1, rfl⟩
    · rw [cif_f h1]
      by_cases h2 : okP N to lg n c 2
      · rw [cif_t h2]; exact ⟨2, by decide, by decide, h2, rfl⟩
      · rw [cif_f h2]
        by_cases h3 : okP N to lg n c 3
        · rw [cif_t h3]; exact ⟨3, by decide, by decide, h3, rfl⟩
        · obtain ⟨s, s0, s1, hs⟩ := ex
          have : s = 0 ∨ s = 1 ∨ s = 2 ∨ s = 3 := by omega
          rcases this with z | z | z | z <;> subst z
          · exact absurd hs h0
          · exact absurd hs h1
          · exact absurd hs h2
          · exact absurd hs h3
noncomputable def ssum (N : Int → Int) (to lg fr : Int) (n : Nat) : Int := itr (fun i x => x + sFd N lg i (pcS N to lg fr (i + 1).toNat)) 0 n 0
theorem ssum_s {n : Nat} : ssum N to lg fr (n + 1) = ssum N to lg fr n + sFd N lg n (pcS N to lg fr (n + 1)) := by
  unfold ssum
  rw [itr_succ, Int.zero_add, show ((n : Int) + 1).toNat = n + 1 by omega]
/-- along the run -/
def PI (N : Int → Int) (to lg fr : Int) (w : Int → Int) (n : Nat) : Prop := n ≤ 60 ∧ (0 ≤ pcS N to lg fr n ∧ pcS N to lg fr n < 100) ∧ ¬ wall N (pcS N to lg fr n) ∧ rch w n (pcS N to lg fr n) ∧ aV N to lg (60 - (n : Int)).toNat (pcS N to lg fr n) < 1000000 ∧ aV N to lg (60 - (n : Int)).toNat (pcS N to lg fr n) % 1000 + n = aV N to lg 60 fr % 1000 ∧ aV N to lg (60 - (n : Int)).toNat (pcS N to lg fr n) / 1000 + ssum N to lg fr n = aV N to lg 60 fr / 1000
theorem PI.zero (hW : isWay (wall N) fr w) (f0 : 0 ≤ fr) (f1 : fr < 100) (hw : ¬ wall N fr) (hv : aV N to lg 60 fr < 1000000) : PI N to lg fr w 0 := by
  have w0 : w fr = 0 := (hW.2.1 fr f0 f1).mpr ⟨rfl, hw⟩
  refine ⟨by decide, ⟨f0, f1⟩, hw, ⟨by show ¬ w fr = -3; omega, by show w fr ≤ _; omega, by show (_ - w fr) % 2 = 0; omega⟩, hv, ?_, ?_⟩
  · show aV N to lg 60 fr % 1000 + _ = _; omega
  · show aV N to lg 60 fr / 1000 + (0 : Int) = _; omega
theorem PI.at_to {n : Nat} (h : PI N to lg fr w n) : (pcS N to lg fr n = to ↔ (n : Int) = aV N to lg 60 fr % 1000) := by
  obtain ⟨h1, h2, h3, h4, h5, h6, h7⟩ := h
  have b := aV_b (N := N) (to := to) (lg := lg) (60 - (n : Int)).toNat (pcS N to lg fr n) (by omega)
  have v := b.1.resolve_left (by omega)
  constructor
  · intro z
    have := b.2.mpr ⟨z, h3⟩
    omega
  · intro z
    exact (b.2.mp (by omega)).1
theorem PI.step {n : Nat} (hW : isWay (wall N) fr w) (h : PI N to lg fr w n) (hn : (n : Int) < aV N to lg 60 fr % 1000) : PI N to lg fr w (n + 1) ∧ n < 60 ∧ okS N (pcS N to lg fr n) 0 = okS N (pcS N to lg fr n) 0 := by
  have ht := h.at_to
  obtain ⟨h1, h2, h3, h4, h5, h6, h7⟩ := h
  have b := aV_b (N := N) (to := to) (lg := lg) (60 - (n : Int)).toNat (pcS N to lg fr n) (by omega)
  have v := b.1.resolve_left (by omega)
  have nt : ¬ pcS N to lg fr n = to := fun z => by have := ht.mp z; omega
  have n60 : n < 60 := by omega
  obtain ⟨s, s0, s1, hs, he⟩ := nxP_ex (N := N) (to := to) (lg := lg) (n := n) (c := pcS N to lg fr n) (by omega) (by omega) h5 (fun z => nt z.1)
  have ep : pcS N to lg fr (n + 1) = nbr (pcS N to lg fr n) s := he
  have bn := nbr_b h2.1 h2.2 hs.1.1
  have rn := rch_nb hW h2.1 h2.2 s0 s1 h4 hs.1
  have ek : (60 - ((n + 1 : Nat) : Int)).toNat = (59 - (n : Int)).toNat := by omega
  have s01 := sFd_01 (N := N) (lg := lg) (n := n) (c := nbr (pcS N to lg fr n) s)
  have b2 := (aV_b (N := N) (to := to) (lg := lg) (59 - (n : Int)).toNat (nbr (pcS N to lg fr n) s) (by omega)).1.resolve_left (by have := hs.2.1; omega)
  have hs3 := hs.2.2
  refine ⟨⟨by omega, by rw [ep]; exact ⟨bn.1, bn.2.1⟩, by rw [ep]; exact hs.1.2, by rw [ep]; exact rn, by rw [ek, ep]; exact hs.2.1, ?_, ?_⟩, n60, rfl⟩
  · rw [ek, ep]
    rcases s01 with z | z <;> rw [z] at hs3 <;> omega
  · rw [ek, ssum_s, ep]
    rcases s01 with z | z <;> rw [z] at hs3 ⊢ <;> omega
theorem C_nextP {n : Nat} (hr : Rng m) (hW : isWay (wall N) fr w) (hB : beside m) (ck : CK N m) (T : tabC N to lg w (fun _ _ => True) m) (h : PI N to lg fr w n) (hn : (n : Int) < aV N to lg 60 fr % 1000) : Z e (d + 1) 49 0 [.ref 226, .int (iI (n : Int)), .int (iI (pcS N to lg fr n)), .int (iI ((N 0 + (n : Int) / lg + 1) % 24)), .retAddr 0, .retAddr 0, .retAddr 0] [] m = ri (pcS N to lg fr (n + 1)) m := by
  have n60 := (h.step hW hn).2.1
  have ht := h.at_to
  obtain ⟨h1, h2, h3, h4, h5, h6, h7⟩ := h
  have nt : ¬ pcS N to lg fr n = to := fun z => by have := ht.mp z; omega
  obtain ⟨s', s0', s1', hs', he'⟩ := nxP_ex (N := N) (to := to) (lg := lg) (n := n) (c := pcS N to lg fr n) (by omega) (by omega) h5 (fun z => nt z.1)
  show _ = ri (nxP N to lg n (pcS N to lg fr n)) m
  have nn0 : (0 : Int) ≤ (n : Int) := by omega
  have nn1 : (n : Int) < 60 := by omega
  clear ht hn h6 h7 h1 n60
  generalize pcS N to lg fr n = c at *
  generalize (n : Int) = nn at *
  have ti := T nn c nn0 (by omega) h2.1 h2.2 trivial
  have pe : pv N to lg w nn c = conv (aV N to lg (60 - nn).toNat c) := by unfold pv; rw [cif_t h4]
  rw [pe] at ti
  have va := (aV_b (N := N) (to := to) (lg := lg) (60 - nn).toNat c (by omega)).1
  have va60 : vld 60 (aV N to lg (60 - nn).toNat c) := by unfold vld at *; omega
  have cb := conv_b (k := 60) (by decide) va60
  have wi : wr (nn * 100 + c) = nn * 100 + c := wr_of (by omega) (by omega)
  have wcv : wr (conv (aV N to lg (60 - nn).toNat c)) = conv (aV N to lg (60 - nn).toNat c) := wr_of (by omega) (by omega)
  have side : ∀ (s : Int) (u : Value), 0 ≤ s → s < 4 → (okP N to lg nn c s → Z e (d + 1) 49 18 [.ref 226, .int (iI nn), .int (iI c), .int (iI ((N 0 + nn / lg + 1) % 24)), .int (iI (conv (aV N to lg (60 - nn).toNat c))), .int (iI (4 * c + s)), u] [] m = ri (nbr c s) m) ∧ (¬ okP N to lg nn c s → Z e (d + 1) 49 18 [.ref 226, .int (iI nn), .int (iI c), .int (iI ((N 0 + nn / lg + 1) % 24)), .int (iI (conv (aV N to lg (60 - nn).toNat c))), .int (iI (4 * c + s)), u] [] m = Z e (d + 1) 49 18 [.ref 226, .int (iI nn), .int (iI c), .int (iI ((N 0 + nn / lg + 1) % 24)), .int (iI (conv (aV N to lg (60 - nn).toNat c))), .int (iI (4 * c + (s + 1))), .int (iI (nbr c s))] [] m) := by
    intro s u s0 s1
    have bs := hB c s h2.1 h2.2 s0 s1
    have st : Z e (d + 1) 49 18 [.ref 226, .int (iI nn), .int (iI c), .int (iI ((N 0 + nn / lg + 1) % 24)), .int (iI (conv (aV N to lg (60 - nn).toNat c))), .int (iI (4 * c + s)), u] [] m = _ := b_49_18
    rw [wr_of (x := 4 * c + s) (by omega) (by omega), wr_of (x := 4 * c + 4) (by omega) (by omega), itp (by omega), ck_t (by omega), bs, show 4 * c + s + 1 = 4 * c + (s + 1) by omega, wcv] at st
    by_cases z : nbr c s = -3
    · rw [z, ck_t (fun y => absurd (show wr (-3) = -3 from rfl) y), itn (fun y => y.1 rfl)] at st
      refine ⟨fun y => absurd z y.1.1, fun _ => ?_⟩
      rw [z]; exact st
    · have b := nbr_b h2.1 h2.2 z
      have wn : wr (nbr c s) = nbr c s := wr_of (by omega) (by omega)
      have tn := T (nn + 1) (nbr c s) (by omega) (by omega) b.1 b.2.1 trivial
      have wi2 : wr ((nn + 1) * 100 + nbr c s) = (nn + 1) * 100 + nbr c s := wr_of (by omega) (by omega)
      have cks := ck (nbr c s) ((N 0 + nn / lg + 1) % 24) b.1 b.2.1 (by omega) (by omega)
      have po := prC_ok (N := N) (to := to) (lg := lg) (w := w) hW nn0 nn1 h2.1 h2.2 s0 s1 h4 z
      have ep : 1 + 64 * jand (jshr (m 229 (nbr c s)) ((N 0 + nn / lg + 1) % 24)) 1 + m 227 ((nn + 1) * 100 + nbr c s) = prC N to lg w nn (nbr c s) := by rw [cks, tn]; rfl
      rw [wn, wi2, ck_t (fun _ => ⟨⟨b.1, b.2.1⟩, by omega⟩), ep, wr_of (x := prC N to lg w nn (nbr c s)) (by omega) (by omega)] at st
      have iff : prC N to lg w nn (nbr c s) = conv (aV N to lg (60 - nn).toNat c) ↔ okP N to lg nn c s := by
        by_cases q : okS N c s ∧ aV N to lg (59 - nn).toNat (nbr c s) < 1000000
        · have va2 := (aV_b (N := N) (to := to) (lg := lg) (59 - nn).toNat (nbr c s) (by omega)).1
          have s01 := sFd_01 (N := N) (lg := lg) (n := nn) (c := nbr c s)
          have ca := conv_add (k := 59) (v := aV N to lg (59 - nn).toNat (nbr c s)) (f := sFd N lg nn (nbr c s)) (by decide) (by unfold vld at *; omega) q.2 s01
          rw [po.1 q]
          have l1 := conv_lt (k := 60) (by decide) ca.2.1 va60
          have l2 := conv_lt (k := 60) (by decide) va60 ca.2.1
          unfold okP
          constructor
          · intro y
            refine ⟨q.1, q.2, ?_⟩
            rw [y] at l1 l2
            omega
          · intro y; rw [y.2.2]
        · have := po.2.1 q
          exact ⟨fun y => by omega, fun y => absurd ⟨y.1, y.2.1⟩ q⟩
      refine ⟨fun y => ?_, fun y => ?_⟩
      · rw [itp ⟨z, iff.mpr y⟩] at st; exact st
      · rw [itn (fun q => y (iff.mp q.2))] at st; exact st
  rw [b_49_0, wi, ck_t (by omega), ti]
  unfold nxP
  have q0 := side 0 (.retAddr 0) (by decide) (by decide)
  rw [Int.add_zero] at q0
  by_cases k0 : okP N to lg nn c 0
  · rw [cif_t k0]; exact q0.1 k0
  · rw [cif_f k0, q0.2 k0, show (0 : Int) + 1 = 1 from rfl]
    have q1 := side 1 (.int (iI (nbr c 0))) (by decide) (by decide)
    by_cases k1 : okP N to lg nn c 1
    · rw [cif_t k1]; exact q1.1 k1
    · rw [cif_f k1, q1.2 k1, show (1 : Int) + 1 = 2 from rfl]
      have q2 := side 2 (.int (iI (nbr c 1))) (by decide) (by decide)
      by_cases k2 : okP N to lg nn c 2
      · rw [cif_t k2]; exact q2.1 k2
      · rw [cif_f k2, q2.2 k2, show (2 : Int) + 1 = 3 from rfl]
        have q3 := side 3 (.int (iI (nbr c 2))) (by decide) (by decide)
        by_cases k3 : okP N to lg nn c 3
        · rw [cif_t k3]; exact q3.1 k3
        · have : s' = 0 ∨ s' = 1 ∨ s' = 2 ∨ s' = 3 := by omega
          rcases this with z | z | z | z <;> subst z
          · exact absurd hs' k0
          · exact absurd hs' k1
          · exact absurd hs' k2
          · exact absurd hs' k3
end RP
