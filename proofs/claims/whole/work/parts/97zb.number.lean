/-! Reading: numbers on both sides; pass. -/
section SB
variable {e : List Int32 × Value} {d : Nat} {m : zMm} {T B : Int → Int} {L : Int} {n i : Nat}
theorem RC.pass {x : Int} (h : RC T L n i m) (hr : Rng m) (x0 : 0 < x) (x1 : x < 32) (hw : cW T L (tS T L i) = x) : Z e (d + 1) 75 0 [.ref 179, .ref (10000 + x.toNat)] [] m = ri 1 (um (um m 179 7 ((i : Int) + 1)) 179 8 (cW T L (tS T L (i + 1)))) ∧ i < n := by
  have lt : i < n := by
    have a := h.1.2.2.1
    by_cases z : i = n
    · rw [z, h.2.2.2] at hw
      unfold cW at hw
      rw [cif_t rfl] at hw
      omega
    · omega
  refine ⟨?_, lt⟩
  rw [b_75_0 ⟨by omega, x1⟩ h.word, h.1.2.1, itn (fun z => z hw), (h.adv hr lt).1, rn_k, b_75_14]
theorem RC.pass0 {x : Int} (h : RC T L n i m) (x0 : 0 ≤ x) (x1 : x < 32) (hw : ¬ cW T L (tS T L i) = x) : Z e (d + 1) 75 0 [.ref 179, .ref (10000 + x.toNat)] [] m = ri 0 m := by
  rw [b_75_0 ⟨by omega, x1⟩ h.word, h.1.2.1, itp hw]
theorem RC.num {x : Int} (h : RC T L n i m) (hr : Rng m) (l0 : 0 ≤ L) (x0 : 0 ≤ x) (x1 : x ≤ 999) (hw : cW T L (tS T L i) = 2 ∧ cN T L (tS T L i) ≤ x) : Z e (d + 1) 76 0 [.ref 179, .int (iI x), .retAddr 0] [] m = ri (cN T L (tS T L i)) (um (um m 179 7 ((i : Int) + 1)) 179 8 (cW T L (tS T L (i + 1)))) ∧ i < n := by
  have lt : i < n := by
    have a := h.1.2.2.1
    by_cases z : i = n
    · have hw1 := hw.1
      rw [z, h.2.2.2] at hw1
      unfold cW at hw1
      rw [cif_t rfl] at hw1
      omega
    · omega
  refine ⟨?_, lt⟩
  have c := h.at.1
  have cb := cN_b (T := T) (tS_b (T := T) l0 i).2
  have a := h.1.2.2.2.1
  have w7 : wr (m 179 7) = (i : Int) := by rw [hr 179 7]; exact h.1.1
  rw [b_76_0 h.word, w7, hr 183 (i : Int), c, h.1.2.1, wr_of (x := x) (by omega) (by omega), ck_t (fun _ => by omega), itn (fun z => z.elim (fun y => y hw.1) (fun y => by omega)), ck_t (by omega), (h.adv hr lt).1, rn_k, b_76_40]
theorem RC.num0 {x : Int} (h : RC T L n i m) (hr : Rng m) (x0 : 0 ≤ x) (x1 : x ≤ 999) (hw : ¬ (cW T L (tS T L i) = 2 ∧ cN T L (tS T L i) ≤ x)) : Z e (d + 1) 76 0 [.ref 179, .int (iI x), .retAddr 0] [] m = ri (-3) m := by
  have c := h.at.1
  have a := h.1.2.2.2.1
  have w7 : wr (m 179 7) = (i : Int) := by rw [hr 179 7]; exact h.1.1
  have k : ¬ cW T L (tS T L i) = 2 ∨ x < cN T L (tS T L i) := by
    by_cases z : cW T L (tS T L i) = 2
    · exact Or.inr (Int.not_le.mp (fun y => hw ⟨z, y⟩))
    · exact Or.inl z
  rw [b_76_0 h.word, w7, hr 183 (i : Int), c, h.1.2.1, wr_of (x := x) (by omega) (by omega), ck_t (fun _ => by have := h.1.2.2.1; omega), itp k]
end SB
