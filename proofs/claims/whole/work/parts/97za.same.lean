/-! Reading: the same word on both sides. -/
section SA
variable {e : List Int32 × Value} {d : Nat} {m : zMm} {T B : Int → Int} {L s t : Int} {i a : Nat}
theorem spl_cg {a' : Nat} (h : txt a = txt a') : spl T a s t ↔ spl T a' s t := by
  unfold spl tch
  rw [h]
theorem wtx_L : ∀ k : Fin 32, 3 ≤ k.val → (k.val < 29 → 97 ≤ tch (wtx (k.val : Int)) 0 ∧ tch (wtx (k.val : Int)) 0 ≤ 122) ∧ 0 < (txt (wtx (k.val : Int))).length ∧ (29 ≤ k.val → (txt (wtx (k.val : Int))).length = 1) := by decide
theorem wtx_l {x : Int} (x0 : 3 ≤ x) (x1 : x < 32) : (x < 29 → 97 ≤ tch (wtx x) 0 ∧ tch (wtx x) 0 ≤ 122) ∧ 0 < (txt (wtx x)).length ∧ (29 ≤ x → (txt (wtx x)).length = 1) := by
  have q := wtx_L ⟨x.toNat, by omega⟩ (by show 3 ≤ x.toNat; omega)
  rw [show (((⟨x.toNat, by omega⟩ : Fin 32).val : Nat) : Int) = x by show (x.toNat : Int) = x; omega] at q
  refine ⟨fun h => q.1 (by show x.toNat < 29; omega), q.2.1, fun h => q.2.2 (by show 29 ≤ x.toNat; omega)⟩
/-- word x on the class's side, spelled on the reference's -/
theorem cW_iff {x : Int} (h : TB T B L) (s0 : 0 ≤ s) (s1 : s ≤ L) (x0 : 3 ≤ x) (x1 : x < 32) : cW T L s = x ↔ (s < L ∧ ¬ isD (B s) ∧ spl B (wtx x) s (tokE B L s)) := by
  have wb := wtx_b (by omega : 0 ≤ x) x1
  unfold cW
  by_cases z : s = L
  · rw [cif_t z]
    constructor
    · intro y; omega
    · intro y; exact absurd y.1 (by omega)
  · have q := h.2 s s0 (by omega)
    have j := j8_L q.2.1 q.2.2
    have tb := tokE_b (B := B) s1
    rw [cif_f z, q.1, propext j.2.1, (h.tok s0 s1).1]
    by_cases y : isD (B s)
    · rw [cif_t y]
      constructor
      · intro w; omega
      · intro w; exact absurd y w.2.1
    · rw [cif_f y, wI_iff (tb.2.2 (by omega)) x0 x1, spl_j8 wb.1 wb.2.1 (fun i a b => h.2 i (by omega) (by omega))]
      exact ⟨fun w => ⟨by omega, y, w⟩, fun w => w.2.2⟩
theorem spl_0 {x : Int} (x0 : 3 ≤ x) (x1 : x < 32) (h : spl B (wtx x) s t) : B s = tch (wtx x) 0 := by
  have l := (wtx_l x0 x1).2.1
  obtain ⟨h1, h2⟩ := h
  have := h2 0 (by decide) (by omega)
  rw [show s + 0 = s by omega] at this
  exact this
theorem RR.name {x : Int} (h : RR B L i m) (hv : e.2 = .null ∨ e.2 = .ref 10301) (hr : Rng m) (tb : TB T B L) (a0 : 10100 ≤ a) (a1 : a < 10156) (ha : txt a = txt (wtx x)) (x0 : 3 ≤ x) (x1 : x < 29) : Z e (d + 4) 230 0 [.ref 246, .ref a, .retAddr 0, .retAddr 0] [] m = ri (bi (cW T L (tS T L i) = x)) m := by
  have b := h.b tb.1.1
  have sb := tS_b (T := B) tb.1.1 i
  rw [M_name hv a0 a1 hr b.1.1 b.1.2.1 (by have := tb.1.2; omega)]
  refine congrArg (fun y => ri y m) (bi_cg ?_)
  rw [tb.ts i, cW_iff tb sb.1 sb.2 x0 (by omega), h.1, h.2.1, h.2.2.1, h.2.2.2.1, h.2.2.2.2.1, spl_cg ha]
  constructor
  · intro w
    have k := w.1.2
    unfold tokK at k
    have z : ¬ tS B L i = L := fun z => by rw [cif_t z] at k; omega
    rw [cif_f z] at k
    have y : isL (B (tS B L i)) := by
      by_cases y : isL (B (tS B L i))
      · exact y
      · rw [cif_f y] at k
        by_cases u : isD (B (tS B L i))
        · rw [cif_t u] at k; omega
        · rw [cif_f u] at k; omega
    exact ⟨by omega, by omega, w.2⟩
  · intro w
    have c := spl_0 x0 (by omega) w.2.2
    have l := (wtx_l x0 (by omega)).1 x1
    have y : isL (B (tS B L i)) := by rw [c]; exact l
    refine ⟨⟨rfl, ?_⟩, w.2.2⟩
    unfold tokK
    rw [cif_f (by omega), cif_t y]
theorem wtx_p : tch (wtx 29) 0 = 59 ∧ tch (wtx 30) 0 = 40 ∧ tch (wtx 31) 0 = 41 := by decide
/-- the single signs -/
theorem RR.sign {x c : Int} (h : RR B L i m) (tb : TB T B L) (x0 : 29 ≤ x) (x1 : x < 32) (hc : tch (wtx x) 0 = c) (c0 : c = 59 ∨ c = 40 ∨ c = 41) : (m 246 18 = 0 ∧ m 246 17 = 3 ∧ m 249 (m 246 15) = c) ↔ cW T L (tS T L i) = x := by
  have sb := tS_b (T := B) tb.1.1 i
  rw [tb.ts i, cW_iff tb sb.1 sb.2 (by omega) x1, h.1, h.2.2.1, h.2.2.2.1, h.2.2.2.2.1]
  have ln := (wtx_l (by omega : 3 ≤ x) x1).2.2 x0
  constructor
  · intro w
    have k := w.2.1
    have hb := w.2.2
    have z : ¬ tS B L i = L := fun z => by unfold tokK at k; rw [cif_t z] at k; omega
    have n1 : ¬ isL (B (tS B L i)) := by omega
    have n2 : ¬ isD (B (tS B L i)) := by omega
    refine ⟨by omega, n2, ?_⟩
    have e1 : tokE B L (tS B L i) = tS B L i + 1 := by unfold tokE; rw [cif_f z, cif_f n1, cif_f n2]
    rw [e1]
    refine ⟨by omega, fun j j0 j1 => ?_⟩
    have : j = 0 := by omega
    subst this
    rw [show tS B L i + 0 = tS B L i by omega, hb, hc]
  · intro w
    have c1 := spl_0 (by omega) x1 w.2.2
    rw [hc] at c1
    have n1 : ¬ isL (B (tS B L i)) := by omega
    refine ⟨rfl, ?_, c1⟩
    unfold tokK
    rw [cif_f (by omega), cif_f n1, cif_f w.2.1]
/-- a number -/
theorem RR.num (h : RR B L i m) (tb : TB T B L) : (m 246 17 = 2) ↔ cW T L (tS T L i) = 2 := by
  have sb := tS_b (T := B) tb.1.1 i
  rw [tb.ts i, h.2.2.1]
  unfold tokK cW
  by_cases z : tS B L i = L
  · rw [cif_t z, cif_t z]
  · have q := tb.2 (tS B L i) sb.1 (by omega)
    have j := j8_L q.2.1 q.2.2
    rw [cif_f z, cif_f z, q.1, propext j.2.1]
    by_cases y : isD (B (tS B L i))
    · have n1 : ¬ isL (B (tS B L i)) := by omega
      rw [cif_t y, cif_f n1, cif_t y]
    · rw [cif_f y, cif_f y]
      constructor
      · intro w
        by_cases u : isL (B (tS B L i))
        · rw [cif_t u] at w; omega
        · rw [cif_f u] at w; omega
      · intro w
        exfalso
        rcases wfn_b (T := T) (s := tS B L i) (t := tokE T L (tS B L i)) 32 0 (by decide) (by decide) with v | v
        · have w' : wfn T (tS B L i) (tokE T L (tS B L i)) 32 0 = 2 := w
          omega
        · have w' : wfn T (tS B L i) (tokE T L (tS B L i)) 32 0 = 2 := w
          rw [w'] at v
          have l := v.2.2.1
          have lt := (tokE_b (B := T) (L := L) (s := tS B L i) sb.2).2.2 (by omega)
          have l0 : (txt (wtx 2)).length = 0 := by decide
          omega
end SA
