/-! Reading: after a fault the reference goes on idly. -/
section SC
variable {e : List Int32 × Value} {d : Nat} {m : zMm} {s : Int}
theorem RX.number {x : Int} (h : RX s m) (hr : Rng m) : Z e (d + 4) 233 0 [.ref 246, .int (iI x), .retAddr 0, .retAddr 0, .retAddr 0] [] m = ri 0 m := by
  rw [b_233_0, hr 246 18, h.2, itn (fun u => absurd u.1 (by decide)), b_233_42, show wr 0 = 0 from rfl, itn (fun u => u.1 rfl), b_233_77, h.need hr, rn_k, b_233_95]
theorem RX.one (h : RX s m) (hr : Rng m) : Z e (d + 5) 237 0 [.ref 246, .retAddr 0, .retAddr 0] [] m = rn m := by
  have nm : ∀ a : Nat, 10100 ≤ a → a < 10156 → Z e (d + 4) 230 0 [.ref 246, .ref a, .retAddr 0, .retAddr 0] [] m = ri 0 m := fun a a0 a1 => h.name hr a0 a1
  have w0 : wr 0 = 0 := rfl
  have nd : ∀ x, Z e (d + 4) 232 0 [.ref 246, .int (iI x)] [] m = rn m := fun x => h.need (d := d + 1) hr
  rw [b_237_0, b_237_2, nm 10114 (by decide) (by decide), ri_k, b_237_8, w0, itn (fun z => z rfl), b_237_21, hr 246 18, h.2, ck_t (fun z => absurd z (by decide)), itn (fun z => absurd z.1 (by decide)),
    nm 10115 (by decide) (by decide), ri_k, b_237_90, w0, itn (fun z => z rfl),
    nm 10116 (by decide) (by decide), ri_k, b_237_103, w0, itn (fun z => z rfl),
    nm 10117 (by decide) (by decide), ri_k, b_237_116, w0, itn (fun z => z rfl),
    nm 10118 (by decide) (by decide), ri_k, b_237_129, w0, itn (fun z => z rfl),
    nm 10119 (by decide) (by decide), ri_k, b_237_144, w0, itn (fun z => z rfl),
    nm 10120 (by decide) (by decide), ri_k, b_237_159, w0, itn (fun z => z rfl),
    b_237_169, nd, rn_k, b_237_183, itn (by decide), b_237_216, h.codes hr, rn_k, b_237_221, b_237_223, w0, itn (by decide)]
theorem RX.all (h : RX s m) (hr : Rng m) : Z e (d + 6) 236 0 [.ref 246] [] m = rn m := by
  rw [b_236_0, h.one hr, rn_k, b_236_4, h.name (d := d + 1) hr (by decide) (by decide), ri_k, b_236_10, show wr 0 = 0 from rfl, itn (fun z => z rfl)]
theorem RX.either (h : RX s m) (hr : Rng m) : Z e (d + 7) 235 0 [.ref 246] [] m = rn m := by
  rw [b_235_0, h.all hr, rn_k, b_235_4, h.name (d := d + 2) hr (by decide) (by decide), ri_k, b_235_10, show wr 0 = 0 from rfl, itn (fun z => z rfl)]
end SC
