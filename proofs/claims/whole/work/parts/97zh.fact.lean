/-! Reading: the class's fact. -/
section SH
variable {e : List Int32 × Value} {d : Nat} {m : zMm} {T : Int → Int} {L : Int} {n i : Nat} {c l : Int}
theorem CS.code {q v : Int} (h : CS T L n i c l m) (c0 : 0 ≤ c) (c1 : c < 100) (l0 : 1 ≤ l) (l1 : l ≤ 10) (q0 : 0 ≤ q) (q1 : q ≤ 8) (v0 : 0 ≤ v) (v1 : v ≤ 999) : ∃ m', Z e d 113 0 [.ref 185, .int (iI q), .int (iI v)] [] m = rn m' ∧ CS T L n i (c + 1) l m' ∧ CF l c m m' ∧ m' 190 c = q * 1000 + v ∧ m' 189 (l - 1) = c + 1 := by
  obtain ⟨h1, h2, h3, h4⟩ := h
  refine ⟨_, C_code h2 h3 c0 c1 h4 l0 l1, ⟨?_, ?_, ?_, ?_⟩, CF.code _ _ _, ?_, ?_⟩
  · obtain ⟨a1, a2, a3, a4⟩ := h1
    refine ⟨?_, ?_, ?_, a4⟩
    · rw [um_r (by decide), um_r (by decide), um_r (by decide)]; exact a1
    · intro k hk
      have := a2 k hk
      rw [um_k (by decide), um_k (by decide), um_k (by decide), um_k (by decide), um_k (by decide), um_k (by decide), um_k (by decide), um_k (by decide), um_k (by decide)]
      exact this
    · rw [um_k (by decide), um_k (by decide), um_k (by decide), um_k (by decide), um_k (by decide), um_k (by decide), um_k (by decide), um_k (by decide), um_k (by decide)]
      exact a3
  · exact ((h2.um (wr_of (by omega) (by omega))).um (wr_of (by omega) (by omega))).um (wr_of (by omega) (by omega))
  · rw [um_k (by decide), um_s]
  · rw [um_k (by decide), um_i (by decide), um_k (by decide)]; exact h4
  · rw [um_k (by decide), um_k (by decide), um_s]
  · rw [um_s]
theorem CS.adv (h : CS T L n i c l m) (hi : i < n) : ∃ m', m' = um (um m 179 7 ((i : Int) + 1)) 179 8 (cW T L (tS T L (i + 1))) ∧ Z e d 74 0 [.ref 179] [] m = rn m' ∧ CS T L n (i + 1) c l m' ∧ CF l c m m' := by
  have a := h.1.adv (e := e) (d := d) h.2.1 hi
  refine ⟨_, rfl, a.1, ⟨a.2.1, a.2.2, ?_, ?_⟩, CF.adv _ _⟩
  · rw [um_k (by decide), um_k (by decide)]; exact h.2.2.1
  · rw [um_k (by decide), um_k (by decide)]; exact h.2.2.2
theorem wcode_f : ∀ k : Fin 32, wcode (k.val : Int) = if 23 ≤ (k.val : Int) ∧ (k.val : Int) < 29 then (k.val : Int) - 23 else -1 := by decide
theorem wcode_e {x : Int} (x0 : 0 ≤ x) (x1 : x < 32) : wcode x = if 23 ≤ x ∧ x < 29 then x - 23 else -1 := by
  have q := wcode_f ⟨x.toNat, by omega⟩
  rw [show (((⟨x.toNat, by omega⟩ : Fin 32).val : Nat) : Int) = x by show (x.toNat : Int) = x; omega] at q
  exact q
theorem RC.lt (h : RC T L n i m) (hw : ¬ cW T L (tS T L i) = 0) : i < n := by
  have a := h.1.2.2.1
  by_cases z : i = n
  · rw [z, h.2.2.2] at hw
    unfold cW at hw
    rw [cif_t rfl] at hw
    exact absurd rfl hw
  · omega
theorem C_fact0 (h : CS T L n i c l m) (hx : ¬ (23 ≤ cW T L (tS T L i) ∧ cW T L (tS T L i) < 29)) : Z e (d + 2) 86 0 [.ref 179, .retAddr 0, .retAddr 0] [] m = ri 0 m := by
  have w := h.1.word
  rw [b_86_0 w, h.1.1.2.1, wcode_e (by have := cW_b (T := T) (L := L) (s := tS T L i); omega) (by have := cW_b (T := T) (L := L) (s := tS T L i); omega), itn hx, itp (by decide)]
theorem C_mark (h : CS T L n i c l m) (c0 : 0 ≤ c) (c1 : c < 100) (l0 : 1 ≤ l) (l1 : l ≤ 10) (hx : 26 ≤ cW T L (tS T L i) ∧ cW T L (tS T L i) < 29) : ∃ m', Z e (d + 2) 86 0 [.ref 179, .retAddr 0, .retAddr 0] [] m = ri 1 m' ∧ CS T L n (i + 1) (c + 1) l m' ∧ CF l c m m' ∧ m' 190 c = (cW T L (tS T L i) - 23) * 1000 + 0 ∧ m' 189 (l - 1) = c + 1 := by
  have w := h.1.word
  have wb := cW_b (T := T) (L := L) (s := tS T L i)
  obtain ⟨m1, _, a1, a2, a3⟩ := h.adv (e := e) (d := d + 1) (h.1.lt (by omega))
  obtain ⟨m2, b1, b2, b3, b4, b5⟩ := a2.code (e := e) (d := d + 1) (q := cW T L (tS T L i) - 23) (v := 0) c0 c1 l0 l1 (by omega) (by omega) (by decide) (by decide)
  have wc : wcode (m 179 8) = cW T L (tS T L i) - 23 := by rw [h.1.1.2.1, wcode_e wb.1 wb.2, if_pos ⟨by omega, hx.2⟩]
  refine ⟨m2, ?_, b2, a3.trans b3 (Int.le_refl _), b4, b5⟩
  rw [b_86_0 w, wc, wr_of (x := cW T L (tS T L i) - 23) (by omega) (by omega), itn (by omega), a1, rn_k, b_86_18, wr_of (x := cW T L (tS T L i) - 23) (by omega) (by omega), itp (by omega), b1, rn_k, b_86_32]
theorem C_meas (h : CS T L n i c l m) (hL : 0 ≤ L) (c0 : 0 ≤ c) (c1 : c < 100) (l0 : 1 ≤ l) (l1 : l ≤ 10) (hx : 23 ≤ cW T L (tS T L i) ∧ cW T L (tS T L i) < 26) : (¬ cW T L (tS T L (i + 1)) = 15 → ∃ m', Z e (d + 2) 86 0 [.ref 179, .retAddr 0, .retAddr 0] [] m = ri 0 m' ∧ CS T L n (i + 1) c l m' ∧ CF l c m m') ∧ (cW T L (tS T L (i + 1)) = 15 → (¬ (cW T L (tS T L (i + 2)) = 2 ∧ cN T L (tS T L (i + 2)) ≤ 999) → ∃ m', Z e (d + 2) 86 0 [.ref 179, .retAddr 0, .retAddr 0] [] m = ri 0 m' ∧ CS T L n (i + 2) c l m' ∧ CF l c m m') ∧ ((cW T L (tS T L (i + 2)) = 2 ∧ cN T L (tS T L (i + 2)) ≤ 999) → ∃ m', Z e (d + 2) 86 0 [.ref 179, .retAddr 0, .retAddr 0] [] m = ri 1 m' ∧ CS T L n (i + 3) (c + 1) l m' ∧ CF l c m m' ∧ m' 190 c = (cW T L (tS T L i) - 23) * 1000 + cN T L (tS T L (i + 2)) ∧ m' 189 (l - 1) = c + 1)) := by
  have w := h.1.word
  have wb := cW_b (T := T) (L := L) (s := tS T L i)
  obtain ⟨m1, _, a1, a2, a3⟩ := h.adv (e := e) (d := d + 1) (h.1.lt (by omega))
  have wc : wcode (m 179 8) = cW T L (tS T L i) - 23 := by rw [h.1.1.2.1, wcode_e wb.1 wb.2, if_pos ⟨hx.1, by omega⟩]
  have wq : wr (cW T L (tS T L i) - 23) = cW T L (tS T L i) - 23 := wr_of (by omega) (by omega)
  have start : Z e (d + 2) 86 0 [.ref 179, .retAddr 0, .retAddr 0] [] m = _ := b_86_0 w
  rw [wc, wq, itn (by omega), a1, rn_k, b_86_18, wq, itn (by omega)] at start
  constructor
  · intro q
    rw [a2.1.pass0 (by decide) (by decide) q, ri_k, b_86_41, show wr 0 = 0 from rfl, itp rfl] at start
    exact ⟨m1, start, a2, a3⟩
  · intro q
    have ps := a2.1.pass (e := e) (d := d) (x := 15) a2.2.1 (by decide) (by decide) q
    obtain ⟨m2, e2, b1, b2, b3⟩ := a2.adv (e := e) (d := d) ps.2
    rw [ps.1, ← e2, ri_k, b_86_41, show wr 1 = 1 from rfl, itn (by decide)] at start
    constructor
    · intro u
      rw [b2.1.num0 (e := e) (d := d) b2.2.1 (by decide) (by decide) u, ri_k, b_86_53, show wr (-3) = -3 from rfl, itp rfl] at start
      exact ⟨m2, start, b2, a3.trans b3 (Int.le_refl _)⟩
    · intro u
      have nm := b2.1.num (e := e) (d := d) (x := 999) b2.2.1 hL (by decide) (by decide) u
      have cb := cN_b (T := T) (tS_b (T := T) hL (i + 2)).2
      obtain ⟨m3, e3, d1, d2, d3⟩ := b2.adv (e := e) (d := d) nm.2
      obtain ⟨m4, f1, f2, f3, f4, f5⟩ := d2.code (e := e) (d := d + 1) (q := cW T L (tS T L i) - 23) (v := cN T L (tS T L (i + 2))) c0 c1 l0 l1 (by omega) (by omega) cb.1 u.2
      rw [nm.1, ← e3, ri_k, b_86_53, wr_of (x := cN T L (tS T L (i + 1 + 1))) (Int.le_trans (by decide) cb.1) (Int.lt_of_le_of_lt cb.2 (by decide)), itn (fun z => by have := cb.1; have z' : cN T L (tS T L (i + 2)) = -3 := z; omega), f1, rn_k, b_86_71] at start
      exact ⟨m4, start, f2, (a3.trans b3 (Int.le_refl _)).trans (d3.trans f3 (Int.le_refl _)) (Int.le_refl _), f4, f5⟩
end SH
