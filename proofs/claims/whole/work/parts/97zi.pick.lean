/-! Reading: which fact, the reference. -/
section SI
variable {e : List Int32 × Value} {d : Nat} {m : zMm} {T B : Int → Int} {L : Int} {i : Nat}
theorem M_pick {y : Int} {u2 : Value} (h : RR B L i m) (hv : e.2 = .null ∨ e.2 = .ref 10301) (hr : Rng m) (tb : TB T B L) (hx : ¬ cW T L (tS T L i) = 30) : Z e (d + 5) 237 21 [.ref 246, .int (iI y), u2] [] m = Z e (d + 5) 237 169 [.ref 246, .int (iI y), u2] [.int (iI (if 23 ≤ cW T L (tS T L i) ∧ cW T L (tS T L i) < 26 then cW T L (tS T L i) - 23 else if 26 ≤ cW T L (tS T L i) ∧ cW T L (tS T L i) < 29 then 3000 + (cW T L (tS T L i) - 26) else -1))] m := by
  have nf := nm_fact
  have nm : ∀ (a : Nat) (x : Int), 10100 ≤ a → a < 10156 → txt a = txt (wtx x) → 3 ≤ x → x < 29 → Z e (d + 4) 230 0 [.ref 246, .ref a, .retAddr 0, .retAddr 0] [] m = ri (bi (cW T L (tS T L i) = x)) m := fun a x a0 a1 ha x0 x1 => h.name hv hr tb a0 a1 ha x0 x1
  have n0 := nm 10115 23 (by decide) (by decide) (nf 0) (by decide) (by decide)
  have n1 := nm 10116 24 (by decide) (by decide) (nf 1) (by decide) (by decide)
  have n2 := nm 10117 25 (by decide) (by decide) (nf 2) (by decide) (by decide)
  have n3 := nm 10118 26 (by decide) (by decide) (nf 3) (by decide) (by decide)
  have n4 := nm 10119 27 (by decide) (by decide) (nf 4) (by decide) (by decide)
  have n5 := nm 10120 28 (by decide) (by decide) (nf 5) (by decide) (by decide)
  have sg := h.sign (x := 30) (c := 40) tb (by decide) (by decide) wtx_p.2.1 (by decide)
  have b := h.b tb.1.1
  have l1 := tb.1.2
  have w0 : wr 0 = 0 := rfl
  have w1 : wr 1 = 1 := rfl
  have start : Z e (d + 5) 237 21 [.ref 246, .int (iI y), u2] [] m = _ := b_237_21
  rw [hr 246 18, hr 246 17, hr 246 15, hr 249 _, show wr 40 = 40 from rfl, itn (fun z => hx (sg.mp z)), ck_t (fun _ k => by
    rcases b.2 with z | z
    · exfalso
      have k3 := k
      rw [h.2.2.1] at k3
      unfold tokK at k3
      rw [cif_t (by rw [← h.1]; exact z)] at k3
      omega
    · omega), n0, ri_k, b_237_90] at start
  rw [start]
  generalize cW T L (tS T L i) = x at *
  by_cases c0 : x = 23
  · subst c0; rw [bi_t rfl, w1, itp (by decide)]; rfl
  · rw [bi_f c0, w0, itn (fun z => z rfl), n1, ri_k, b_237_103]
    by_cases c1 : x = 24
    · subst c1; rw [bi_t rfl, w1, itp (by decide)]; rfl
    · rw [bi_f c1, w0, itn (fun z => z rfl), n2, ri_k, b_237_116]
      by_cases c2 : x = 25
      · subst c2; rw [bi_t rfl, w1, itp (by decide)]; rfl
      · rw [bi_f c2, w0, itn (fun z => z rfl), n3, ri_k, b_237_129]
        by_cases c3 : x = 26
        · subst c3; rw [bi_t rfl, w1, itp (by decide)]; rfl
        · rw [bi_f c3, w0, itn (fun z => z rfl), n4, ri_k, b_237_144]
          by_cases c4 : x = 27
          · subst c4; rw [bi_t rfl, w1, itp (by decide)]; rfl
          · rw [bi_f c4, w0, itn (fun z => z rfl), n5, ri_k, b_237_159]
            by_cases c5 : x = 28
            · subst c5; rw [bi_t rfl, w1, itp (by decide)]; rfl
            · rw [bi_f c5, w0, itn (fun z => z rfl), if_neg (by omega), if_neg (by omega)]
end SI
