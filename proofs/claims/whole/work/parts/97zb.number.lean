/-! Reading: numbers on both sides; pass. -/
section SB
variable {e : List Int32 × Value} {d : Nat} {m : zMm} {T B : Int → Int} {L : Int} {n i : Nat}
theorem RC.pass {x : Int} (h : RC T L n i m) (hr : Rng m) (x0 : 0 < x) (x1 : x < 32) (hw : cW T L (tS T L i) = x) : Z e (d + 1) 75 0 [.ref 179, .ref (10000 + x.toNat)] [] m = ri 1 (um (um m 179 7 ((i : Int) + 1)) 179 8 (cW T L (tS T L (i + 1)))) ∧ i < n := by
  have lt : i < n := by
    have a := h.1.2.2.1
    by_cases z : i = n
    · rw [z, h.2.2.2] at hw
      unfold cW at hw
      rw [cif_t rfl] at hw
      omega
    · omega
  refine ⟨?_, lt⟩
  rw [b_75_0 ⟨by omega, x1⟩ h.word, h.1.2.1, itn (fun z => z hw), (h.adv hr lt).1, rn_k, b_75_14]
theorem RC.pass0 {x : Int} (h : RC T L n i m) (x0 : 0 ≤ x) (x1 : x < 32) (hw : ¬ cW T L (tS T L i) = x) : Z e (d + 1) 75 0 [.ref 179, .ref (10000 + x.toNat)] [] m = ri 0 m := by
  rw [b_75_0 ⟨by omega, x1⟩ h.word, h.1.2.1, itp hw]
theorem RC.num {x : Int} (h : RC T L n i m) (hr : Rng m) (l0 : 0 ≤ L) (x0 : 0 ≤ x) (x1 : x ≤ 999) (hw : cW T L (tS T L i) = 2 ∧ cN T L (tS T L i) ≤ x) : Z e (d + 1) 76 0 [.ref 179, .int (iI x), .retAddr 0] [] m = ri (cN T L (tS T L i)) (um (um m 179 7 ((i : Int) + 1)) 179 8 (cW T L (tS T L (i + 1)))) ∧ i < n := by
  have lt : i < n := by
    have a := h.1.2.2.1
    by_cases z : i = n
    · have hw1 := hw.1
      rw [z, h.2.2.2] at hw1
      unfold cW at hw1
      rw [cif_t rfl] at hw1
      omega
    · omega
  refine ⟨?_, lt⟩
  have c := h.at.1
  have cb := cN_b (T := T) (tS_b (T := T) l0 i).2
  have a := h.1.2.2.2.1
  have w7 : wr (m 179 7) = (i : Int) := by rw [hr 179 7]; exact h.1.1
  rw [b_76_0 h.word, w7, hr 183 (i : Int), c, h.1.2.1, wr_of (x := x) (by omega) (by omega), ck_t (fun _ => by omega), itn (fun z => z.elim (fun y => y hw.1) (fun y => by omega)), ck_t (by omega), (h.adv hr lt).1, rn_k, b_76_40]
theorem RC.num0 {x : Int} (h : RC T L n i m) (hr : Rng m) (x0 : 0 ≤ x) (x1 : x ≤ 999) (hw : ¬ (cW T L (tS T L i) = 2 ∧ cN T L (tS T L i) ≤ x)) : Z e (d + 1) 76 0 [.ref 179, .int (iI x), .retAddr 0] [] m = ri (-3) m := by
  have c := h.at.1
  have a := h.1.2.2.2.1
  have w7 : wr (m 179 7) = (i : Int) := by rw [hr 179 7]; exact h.1.1
  have k : ¬ cW T L (tS T L i) = 2 ∨ x < cN T L (tS T L i) := by
    by_cases z : cW T L (tS T L i) = 2
    · exact Or.inr (Int.not_le.mp (fun y => hw ⟨z, y⟩))
    · exact Or.inl z
  rw [b_76_0 h.word, w7, hr 183 (i : Int), c, h.1.2.1, wr_of (x := x) (by omega) (by omega), ck_t (fun _ => by have := h.1.2.2.1; omega), itp k]
theorem RR.number {x : Int} (h : RR B L i m) (hr : Rng m) (tb : TB T B L) (x0 : 0 ≤ x) (x1 : x ≤ 999) : ((cW T L (tS T L i) = 2 ∧ cN T L (tS T L i) ≤ x) → ∃ m', Z e (d + 4) 233 0 [.ref 246, .int (iI x), .retAddr 0, .retAddr 0, .retAddr 0] [] m = ri (cN T L (tS T L i)) m' ∧ RR B L (i + 1) m' ∧ FX m m') ∧ (¬ (cW T L (tS T L i) = 2 ∧ cN T L (tS T L i) ≤ x) → ∃ v, Z e (d + 4) 233 0 [.ref 246, .int (iI x), .retAddr 0, .retAddr 0, .retAddr 0] [] m = ri v (um m 246 18 1)) := by
  have sb := tS_b (T := B) tb.1.1 i
  have eb := tokE_b (B := B) sb.2
  have num := h.num tb
  have ts := tb.ts i
  have cb := cN_b (T := T) (tS_b (T := T) tb.1.1 i).2
  have l1 := tb.1.2
  have wx : wr x = x := wr_of (by omega) (by omega)
  have start : Z e (d + 4) 233 0 [.ref 246, .int (iI x), .retAddr 0, .retAddr 0, .retAddr 0] [] m = _ := b_233_0
  rw [hr 246 18, hr 246 17, h.2.2.2.1, h.1, h.2.1, wr_of (x := tokE B L (tS B L i) - tS B L i) (by omega) (by omega)] at start
  have s17 := h.2.2.1
  by_cases q : m 246 17 = 2 ∧ tokE B L (tS B L i) - tS B L i ≤ 3
  · rw [itp ⟨rfl, q⟩] at start
    have k := q.1
    rw [s17] at k
    have z : ¬ tS B L i = L := fun z => by unfold tokK at k; rw [cif_t z] at k; omega
    have nl : ¬ isL (B (tS B L i)) := fun y => by unfold tokK at k; rw [cif_f z, cif_t y] at k; omega
    have isd : isD (B (tS B L i)) := by
      by_cases y : isD (B (tS B L i))
      · exact y
      · unfold tokK at k; rw [cif_f z, cif_f nl, cif_f y] at k; omega
    have e1 : tokE B L (tS B L i) = gon isD B L (tS B L i + 1) := by unfold tokE; rw [cif_f z, cif_f nl, cif_t isd]
    have dig : ∀ j, tS B L i ≤ j → j < tokE B L (tS B L i) → isD (B j) := fun j a b => by
      by_cases y : j = tS B L i
      · rw [y]; exact isd
      · exact gon_all (P := isD) (L := L) (T := B) (L - (tS B L i + 1)).toNat (tS B L i + 1) (by omega) j (by omega) (by rw [← e1]; exact b)
    have isdT : isD (T (tS T L i)) := by
      have w := tb.2 (tS B L i) sb.1 (by omega)
      rw [ts, w.1]
      exact (j8_L w.2.1 w.2.2).2.1.mpr isd
    have cn : cN T L (tS T L i) = itr (fun i x => x * 10 + T i - 48) (tS B L i) (tokE B L (tS B L i) - tS B L i).toNat 0 := by
      unfold cN
      rw [cif_t ⟨by omega, isdT⟩]
      unfold numS
      rw [ts, (tb.tok sb.1 sb.2).1, cif_f (by omega)]
    have w2 : cW T L (tS T L i) = 2 := num.mp q.1
    have loop : ∀ (k : Nat) (p v : Int), p + k = tokE B L (tS B L i) → tS B L i ≤ p → Z e (d + 4) 233 42 [.ref 246, .int (iI x), .int (iI v), .int (iI 1), .int (iI p)] [] m = Z e (d + 4) 233 77 [.ref 246, .int (iI x), .int (iI (itr (fun i x => x * 10 + T i - 48) p k v)), .int (iI 1), .int (iI (tokE B L (tS B L i)))] [] m := by
      intro k
      induction k with
      | zero =>
        intro p v hp p0
        refine (b_233_42).trans ?_
        rw [hr 246 16, h.2.1, wr_of (x := p) (by omega) (by omega), itn (fun y => by have := y.2; omega), show p = tokE B L (tS B L i) by omega]
        rfl
      | succ k ih =>
        intro p v hp p0
        have dp := dig p p0 (by omega)
        have w := tb.2 p (by omega) (by omega)
        have tp : T p = B p := by rw [w.1]; unfold j8; omega
        refine (b_233_42).trans ?_
        rw [hr 246 16, h.2.1, wr_of (x := p) (by omega) (by omega), itp ⟨by decide, by omega⟩, ck_t (by omega), h.2.2.2.2.1, ih (p + 1) _ (by omega) (by omega), show 10 * v + B p - 48 = v * 10 + T p - 48 by omega]
        rfl
    rw [loop (tokE B L (tS B L i) - tS B L i).toNat (tS B L i) 0 (by omega) (Int.le_refl _), ← cn, b_233_77, show wr 1 = 1 from rfl, wx, wr_of (x := cN T L (tS T L i)) (by omega) (by omega)] at start
    constructor
    · intro y
      rw [itp ⟨by decide, y.2⟩] at start
      obtain ⟨m', a1, a2, a3⟩ := h.need (e := e) (d := d) (x := 1) hr tb.1.1 tb.1.2 rfl (by decide)
      rw [a1, rn_k, b_233_95] at start
      exact ⟨m', start, a2, a3⟩
    · intro y
      rw [itn (fun u => y ⟨w2, u.2⟩), h.need0 hr, rn_k, b_233_95] at start
      exact ⟨_, start⟩
  · rw [itn (fun u => q u.2), b_233_42, show wr 0 = 0 from rfl, itn (fun u => u.1 rfl), b_233_77, show wr 0 = 0 from rfl, itn (fun u => u.1 rfl), h.need0 hr, rn_k, b_233_95] at start
    refine ⟨fun y => ?_, fun _ => ⟨_, start⟩⟩
    exfalso
    have k := num.mpr y.1
    have big : 3 < tokE B L (tS B L i) - tS B L i := Int.not_le.mp (fun u => q ⟨k, u⟩)
    have c := y.2
    unfold cN at c
    have w0 := y.1
    have lt : tS T L i < L ∧ isD (T (tS T L i)) := by
      unfold cW at w0
      by_cases z : tS T L i = L
      · rw [cif_t z] at w0; omega
      · refine ⟨by rw [ts] at z ⊢; omega, ?_⟩
        by_cases u : isD (T (tS T L i))
        · exact u
        · exfalso
          rw [s17] at k
          unfold tokK at k
          have w := tb.2 (tS B L i) sb.1 (by rw [ts] at z; omega)
          rw [ts, w.1] at u
          have u' : ¬ isD (B (tS B L i)) := fun v => u ((j8_L w.2.1 w.2.2).2.1.mpr v)
          rw [cif_f (by rw [ts] at z; exact z)] at k
          by_cases v : isL (B (tS B L i))
          · rw [cif_t v] at k; omega
          · rw [cif_f v, cif_f u'] at k; omega
    rw [cif_t lt] at c
    unfold numS at c
    rw [ts, (tb.tok sb.1 sb.2).1, cif_t big] at c
    omega
end SB
