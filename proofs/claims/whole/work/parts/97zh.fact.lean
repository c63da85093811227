/-! Reading: the class's fact. -/
section SH
variable {e : List Int32 × Value} {d : Nat} {m : zMm} {T : Int → Int} {L : Int} {n i : Nat} {c l : Int}
theorem CS.code {q v : Int} (h : CS T L n i c l m) (c0 : 0 ≤ c) (c1 : c < 100) (l0 : 1 ≤ l) (l1 : l ≤ 10) (q0 : 0 ≤ q) (q1 : q ≤ 8) (v0 : 0 ≤ v) (v1 : v ≤ 999) : ∃ m', Z e d 113 0 [.ref 185, .int (iI q), .int (iI v)] [] m = rn m' ∧ CS T L n i (c + 1) l m' ∧ CF l c m m' ∧ m' 190 c = q * 1000 + v ∧ m' 189 (l - 1) = c + 1 := by
  obtain ⟨h1, h2, h3, h4⟩ := h
  refine ⟨_, C_code h2 h3 c0 c1 h4 l0 l1, ⟨?_, ?_, ?_, ?_⟩, CF.code _ _ _, ?_, ?_⟩
  · obtain ⟨a1, a2, a3, a4⟩ := h1
    refine ⟨?_, ?_, ?_, a4⟩
    · rw [um_r (by decide), um_r (by decide), um_r (by decide)]; exact a1
    · intro k hk
      have := a2 k hk
      rw [um_k (by decide), um_k (by decide), um_k (by decide), um_k (by decide), um_k (by decide), um_k (by decide), um_k (by decide), um_k (by decide), um_k (by decide)]
      exact this
    · rw [um_k (by decide), um_k (by decide), um_k (by decide), um_k (by decide), um_k (by decide), um_k (by decide), um_k (by decide), um_k (by decide), um_k (by decide)]
      exact a3
  · exact ((h2.um (wr_of (by omega) (by omega))).um (wr_of (by omega) (by omega))).um (wr_of (by omega) (by omega))
  · rw [um_k (by decide), um_s]
  · rw [um_k (by decide), um_i (by decide), um_k (by decide)]; exact h4
  · rw [um_k (by decide), um_k (by decide), um_s]
  · rw [um_s]
theorem CS.adv (h : CS T L n i c l m) (hi : i < n) : ∃ m', m' = um (um m 179 7 ((i : Int) + 1)) 179 8 (cW T L (tS T L (i + 1))) ∧ Z e d 74 0 [.ref 179] [] m = rn m' ∧ CS T L n (i + 1) c l m' ∧ CF l c m m' := by
  have a := h.1.adv (e := e) (d := d) h.2.1 hi
  refine ⟨_, rfl, a.1, ⟨a.2.1, a.2.2, ?_, ?_⟩, CF.adv _ _⟩
  · rw [um_k (by decide), um_k (by decide)]; exact h.2.2.1
  · rw [um_k (by decide), um_k (by decide)]; exact h.2.2.2
end SH
