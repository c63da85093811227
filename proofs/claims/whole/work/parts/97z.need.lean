/-! Reading: the reference's steps. -/
section SZ
variable {e : List Int32 × Value} {d : Nat} {m : zMm} {B : Int → Int} {L : Int} {i : Nat}
theorem RR.b (h : RR B L i m) (l0 : 0 ≤ L) : (0 ≤ m 246 15 ∧ m 246 15 ≤ m 246 16 ∧ m 246 16 ≤ L) ∧ (m 246 15 = L ∨ m 246 15 < m 246 16) := by
  have b := tS_b (T := B) l0 i
  have c := tokE_b (B := B) b.2
  rw [h.1, h.2.1]
  refine ⟨⟨b.1, c.1, c.2.1⟩, ?_⟩
  by_cases z : tS B L i = L
  · exact Or.inl z
  · exact Or.inr (c.2.2 (by omega))
theorem RR.next (h : RR B L i m) (hr : Rng m) (l0 : 0 ≤ L) (l1 : L ≤ 300) : ∃ m', Z e (d + 2) 229 0 [.ref 246] [] m = rn m' ∧ RR B L (i + 1) m' ∧ FX m m' := by
  have b := h.b l0
  obtain ⟨m', a1, a2, a3, a4, a5⟩ := M_tok (e := e) (d := d) (m := m) (B := B) (L := L) hr h.2.2.2.2.2 h.2.2.2.2.1 l1 (by omega) b.1.2.2
  rw [h.2.1] at a3 a4 a5
  refine ⟨m', a1, ⟨a3, a4, a5, ?_, ?_, ?_⟩, a2⟩
  · rw [a2.2.1 18 (by decide)]; exact h.2.2.2.1
  · rw [a2.1 249 (by decide)]; exact h.2.2.2.2.1
  · rw [a2.2.1 4 (by decide)]; exact h.2.2.2.2.2
theorem RR.need {x : Int} (h : RR B L i m) (hr : Rng m) (l0 : 0 ≤ L) (l1 : L ≤ 300) (hx : wr x = x) (x1 : ¬ x = 0) : ∃ m', Z e (d + 3) 232 0 [.ref 246, .int (iI x)] [] m = rn m' ∧ RR B L (i + 1) m' ∧ FX m m' := by
  have e0 : um m 246 18 0 = m := um_self h.2.2.2.1
  obtain ⟨m', a1, a2⟩ := h.next (e := e) (d := d) hr l0 l1
  refine ⟨m', ?_, a2⟩
  rw [b_232_0, hr 246 18, hx, h.2.2.2.1, itn (c := (¬ (0 : Int) = 0) ∨ x = 0) (fun z => z.elim (fun y => y rfl) x1), e0, hr 246 18, h.2.2.2.1, itp rfl, a1, rn_k, b_232_31]
theorem RR.need0 (h : RR B L i m) (hr : Rng m) : Z e (d + 3) 232 0 [.ref 246, .int (iI 0)] [] m = rn (um m 246 18 1) := by
  rw [b_232_0, show wr 0 = 0 from rfl, itp (Or.inr rfl), um_s, show wr 1 = 1 from rfl, itn (by decide), b_232_31]
/-- after a fault -/
def RX (s : Int) (m : zMm) : Prop := m 246 15 = s ∧ m 246 18 = 1
theorem RX.need {s x : Int} (h : RX s m) (hr : Rng m) : Z e (d + 3) 232 0 [.ref 246, .int (iI x)] [] m = rn m := by
  rw [b_232_0, hr 246 18, h.2, itp (Or.inl (by decide)), um_s, show wr 1 = 1 from rfl, itn (by decide), b_232_31, um_self h.2]
theorem RX.name {s : Int} {a : Nat} (h : RX s m) (hr : Rng m) (h0 : 10100 ≤ a) (h1 : a < 10156) : Z e (d + 4) 230 0 [.ref 246, .ref a, .retAddr 0, .retAddr 0] [] m = ri 0 m := by
  have zs : zisS (zE0 e.1 e.2) a = true := zis_s h0 h1
  rw [b_230_0 zs, hr 246 18, h.2, itn (fun z => absurd z.1 (by decide)), b_230_39 zs, show wr 0 = 0 from rfl, itn (fun z => z rfl), ck_t (nbp_of (Or.inl rfl))]
theorem RX.codes {s x : Int} (h : RX s m) (hr : Rng m) : Z e d 234 0 [.ref 246, .int (iI x)] [] m = rn m := by
  rw [b_234_0, hr 246 18, h.2, itn (by decide)]
/-- the reference's texts are the class's -/
theorem nm_txt : (∀ k : Fin 7, txt (10100 + k.val) = txt (wtx (16 + (k.val : Int)))) ∧ txt 10107 = txt (wtx 3) ∧ txt 10108 = txt (wtx 7) ∧ txt 10109 = txt (wtx 4) ∧ txt 10110 = txt (wtx 5) ∧ txt 10111 = txt (wtx 6) ∧ txt 10112 = txt (wtx 8) ∧ txt 10113 = txt (wtx 9) ∧ txt 10114 = txt (wtx 14) ∧ txt 10121 = txt (wtx 15) ∧ txt 10122 = txt (wtx 12) ∧ txt 10123 = txt (wtx 13) ∧ txt 10124 = txt (wtx 10) ∧ txt 10125 = txt (wtx 11) := by decide
theorem nm_fact : ∀ k : Fin 6, txt (10115 + k.val) = txt (wtx (23 + (k.val : Int))) := by decide
end SZ
