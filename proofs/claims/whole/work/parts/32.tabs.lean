/-! The tables, each by its numbers. By program. -/
section TN
variable {e : List Int32 × Value} {d : Nat} {m : zMm} {i j x : Int}
theorem tOk_4 (h0 : 0 ≤ m 4 3) (h1 : m 4 3 ≤ 16) : tOk m 4 18 16 := ⟨h0, h1, by decide, by decide, by decide, by decide⟩
theorem get_4 (c0 : 0 ≤ m 4 3) (c1 : m 4 3 ≤ 16) (h0 : 0 ≤ i) (hn : i < m 4 3) (hj : 0 ≤ j) (hw : j < 18) : Z e d 104 0 [.ref 4, .int (iI i), .int (iI j)] [] m = ri (m 5 (i * 18 + j)) m := T_get zTab_4 (tOk_4 c0 c1) h0 hn hj hw
theorem set_4 (c0 : 0 ≤ m 4 3) (c1 : m 4 3 ≤ 16) (h0 : 0 ≤ i) (hn : i < m 4 3) (hj : 0 ≤ j) (hw : j < 18) : Z e d 105 0 [.ref 4, .int (iI i), .int (iI j), .int (iI x)] [] m = rn (um m 5 (i * 18 + j) x) := T_set zTab_4 (tOk_4 c0 c1) h0 hn hj hw
theorem add_4 (c0 : 0 ≤ m 4 3) (c1 : m 4 3 < 16) : Z e d 106 0 [.ref 4, .retAddr 0] [] m = ri (m 4 3) (um (uz m 5 (m 4 3 * 18) 18) 4 3 (m 4 3 + 1)) := T_add zTab_4 (by decide) (tOk_4 c0 (by omega)) c1
theorem any_4 (c0 : 0 ≤ m 4 3) (c1 : m 4 3 ≤ 16) (hr : Rng m) (hx : wr x = x) : Z e d 107 0 [.ref 4, .int (iI x), .retAddr 0] [] m = ri (bi (∃ i, 0 ≤ i ∧ i < m 4 3 ∧ m 5 (i * 18 + 0) = x)) m := T_any zTab_4 (tOk_4 c0 c1) hr hx
theorem get_4_n (hn : m 4 3 = 0) : Z e d 104 0 [.ref 4, .int (iI 0), .int (iI 0)] [] m = ri (-3) m := by
  rw [b_104_0 zTab_4, hn]
  exact if_pos (by decide)
theorem tOk_6 (h0 : 0 ≤ m 6 3) (h1 : m 6 3 ≤ 6) : tOk m 6 2 6 := ⟨h0, h1, by decide, by decide, by decide, by decide⟩
theorem get_6 (c0 : 0 ≤ m 6 3) (c1 : m 6 3 ≤ 6) (h0 : 0 ≤ i) (hn : i < m 6 3) (hj : 0 ≤ j) (hw : j < 2) : Z e d 104 0 [.ref 6, .int (iI i), .int (iI j)] [] m = ri (m 7 (i * 2 + j)) m := T_get zTab_6 (tOk_6 c0 c1) h0 hn hj hw
theorem set_6 (c0 : 0 ≤ m 6 3) (c1 : m 6 3 ≤ 6) (h0 : 0 ≤ i) (hn : i < m 6 3) (hj : 0 ≤ j) (hw : j < 2) : Z e d 105 0 [.ref 6, .int (iI i), .int (iI j), .int (iI x)] [] m = rn (um m 7 (i * 2 + j) x) := T_set zTab_6 (tOk_6 c0 c1) h0 hn hj hw
theorem add_6 (c0 : 0 ≤ m 6 3) (c1 : m 6 3 < 6) : Z e d 106 0 [.ref 6, .retAddr 0] [] m = ri (m 6 3) (um (uz m 7 (m 6 3 * 2) 2) 6 3 (m 6 3 + 1)) := T_add zTab_6 (by decide) (tOk_6 c0 (by omega)) c1
theorem any_6 (c0 : 0 ≤ m 6 3) (c1 : m 6 3 ≤ 6) (hr : Rng m) (hx : wr x = x) : Z e d 107 0 [.ref 6, .int (iI x), .retAddr 0] [] m = ri (bi (∃ i, 0 ≤ i ∧ i < m 6 3 ∧ m 7 (i * 2 + 0) = x)) m := T_any zTab_6 (tOk_6 c0 c1) hr hx
theorem get_6_n (hn : m 6 3 = 0) : Z e d 104 0 [.ref 6, .int (iI 0), .int (iI 0)] [] m = ri (-3) m := by
  rw [b_104_0 zTab_6, hn]
  exact if_pos (by decide)
theorem tOk_8 (h0 : 0 ≤ m 8 3) (h1 : m 8 3 ≤ 24) : tOk m 8 6 24 := ⟨h0, h1, by decide, by decide, by decide, by decide⟩
theorem get_8 (c0 : 0 ≤ m 8 3) (c1 : m 8 3 ≤ 24) (h0 : 0 ≤ i) (hn : i < m 8 3) (hj : 0 ≤ j) (hw : j < 6) : Z e d 104 0 [.ref 8, .int (iI i), .int (iI j)] [] m = ri (m 9 (i * 6 + j)) m := T_get zTab_8 (tOk_8 c0 c1) h0 hn hj hw
theorem set_8 (c0 : 0 ≤ m 8 3) (c1 : m 8 3 ≤ 24) (h0 : 0 ≤ i) (hn : i < m 8 3) (hj : 0 ≤ j) (hw : j < 6) : Z e d 105 0 [.ref 8, .int (iI i), .int (iI j), .int (iI x)] [] m = rn (um m 9 (i * 6 + j) x) := T_set zTab_8 (tOk_8 c0 c1) h0 hn hj hw
theorem add_8 (c0 : 0 ≤ m 8 3) (c1 : m 8 3 < 24) : Z e d 106 0 [.ref 8, .retAddr 0] [] m = ri (m 8 3) (um (uz m 9 (m 8 3 * 6) 6) 8 3 (m 8 3 + 1)) := T_add zTab_8 (by decide) (tOk_8 c0 (by omega)) c1
theorem any_8 (c0 : 0 ≤ m 8 3) (c1 : m 8 3 ≤ 24) (hr : Rng m) (hx : wr x = x) : Z e d 107 0 [.ref 8, .int (iI x), .retAddr 0] [] m = ri (bi (∃ i, 0 ≤ i ∧ i < m 8 3 ∧ m 9 (i * 6 + 0) = x)) m := T_any zTab_8 (tOk_8 c0 c1) hr hx
theorem get_8_n (hn : m 8 3 = 0) : Z e d 104 0 [.ref 8, .int (iI 0), .int (iI 0)] [] m = ri (-3) m := by
  rw [b_104_0 zTab_8, hn]
  exact if_pos (by decide)
theorem tOk_10 (h0 : 0 ≤ m 10 3) (h1 : m 10 3 ≤ 5) : tOk m 10 3 5 := ⟨h0, h1, by decide, by decide, by decide, by decide⟩
theorem get_10 (c0 : 0 ≤ m 10 3) (c1 : m 10 3 ≤ 5) (h0 : 0 ≤ i) (hn : i < m 10 3) (hj : 0 ≤ j) (hw : j < 3) : Z e d 104 0 [.ref 10, .int (iI i), .int (iI j)] [] m = ri (m 11 (i * 3 + j)) m := T_get zTab_10 (tOk_10 c0 c1) h0 hn hj hw
theorem set_10 (c0 : 0 ≤ m 10 3) (c1 : m 10 3 ≤ 5) (h0 : 0 ≤ i) (hn : i < m 10 3) (hj : 0 ≤ j) (hw : j < 3) : Z e d 105 0 [.ref 10, .int (iI i), .int (iI j), .int (iI x)] [] m = rn (um m 11 (i * 3 + j) x) := T_set zTab_10 (tOk_10 c0 c1) h0 hn hj hw
theorem add_10 (c0 : 0 ≤ m 10 3) (c1 : m 10 3 < 5) : Z e d 106 0 [.ref 10, .retAddr 0] [] m = ri (m 10 3) (um (uz m 11 (m 10 3 * 3) 3) 10 3 (m 10 3 + 1)) := T_add zTab_10 (by decide) (tOk_10 c0 (by omega)) c1
theorem any_10 (c0 : 0 ≤ m 10 3) (c1 : m 10 3 ≤ 5) (hr : Rng m) (hx : wr x = x) : Z e d 107 0 [.ref 10, .int (iI x), .retAddr 0] [] m = ri (bi (∃ i, 0 ≤ i ∧ i < m 10 3 ∧ m 11 (i * 3 + 0) = x)) m := T_any zTab_10 (tOk_10 c0 c1) hr hx
theorem get_10_n (hn : m 10 3 = 0) : Z e d 104 0 [.ref 10, .int (iI 0), .int (iI 0)] [] m = ri (-3) m := by
  rw [b_104_0 zTab_10, hn]
  exact if_pos (by decide)
theorem tOk_12 (h0 : 0 ≤ m 12 3) (h1 : m 12 3 ≤ 16) : tOk m 12 7 16 := ⟨h0, h1, by decide, by decide, by decide, by decide⟩
theorem get_12 (c0 : 0 ≤ m 12 3) (c1 : m 12 3 ≤ 16) (h0 : 0 ≤ i) (hn : i < m 12 3) (hj : 0 ≤ j) (hw : j < 7) : Z e d 104 0 [.ref 12, .int (iI i), .int (iI j)] [] m = ri (m 13 (i * 7 + j)) m := T_get zTab_12 (tOk_12 c0 c1) h0 hn hj hw
theorem set_12 (c0 : 0 ≤ m 12 3) (c1 : m 12 3 ≤ 16) (h0 : 0 ≤ i) (hn : i < m 12 3) (hj : 0 ≤ j) (hw : j < 7) : Z e d 105 0 [.ref 12, .int (iI i), .int (iI j), .int (iI x)] [] m = rn (um m 13 (i * 7 + j) x) := T_set zTab_12 (tOk_12 c0 c1) h0 hn hj hw
theorem add_12 (c0 : 0 ≤ m 12 3) (c1 : m 12 3 < 16) : Z e d 106 0 [.ref 12, .retAddr 0] [] m = ri (m 12 3) (um (uz m 13 (m 12 3 * 7) 7) 12 3 (m 12 3 + 1)) := T_add zTab_12 (by decide) (tOk_12 c0 (by omega)) c1
theorem any_12 (c0 : 0 ≤ m 12 3) (c1 : m 12 3 ≤ 16) (hr : Rng m) (hx : wr x = x) : Z e d 107 0 [.ref 12, .int (iI x), .retAddr 0] [] m = ri (bi (∃ i, 0 ≤ i ∧ i < m 12 3 ∧ m 13 (i * 7 + 0) = x)) m := T_any zTab_12 (tOk_12 c0 c1) hr hx
theorem get_12_n (hn : m 12 3 = 0) : Z e d 104 0 [.ref 12, .int (iI 0), .int (iI 0)] [] m = ri (-3) m := by
  rw [b_104_0 zTab_12, hn]
  exact if_pos (by decide)
theorem tOk_14 (h0 : 0 ≤ m 14 3) (h1 : m 14 3 ≤ 8) : tOk m 14 3 8 := ⟨h0, h1, by decide, by decide, by decide, by decide⟩
theorem get_14 (c0 : 0 ≤ m 14 3) (c1 : m 14 3 ≤ 8) (h0 : 0 ≤ i) (hn : i < m 14 3) (hj : 0 ≤ j) (hw : j < 3) : Z e d 104 0 [.ref 14, .int (iI i), .int (iI j)] [] m = ri (m 15 (i * 3 + j)) m := T_get zTab_14 (tOk_14 c0 c1) h0 hn hj hw
theorem set_14 (c0 : 0 ≤ m 14 3) (c1 : m 14 3 ≤ 8) (h0 : 0 ≤ i) (hn : i < m 14 3) (hj : 0 ≤ j) (hw : j < 3) : Z e d 105 0 [.ref 14, .int (iI i), .int (iI j), .int (iI x)] [] m = rn (um m 15 (i * 3 + j) x) := T_set zTab_14 (tOk_14 c0 c1) h0 hn hj hw
theorem add_14 (c0 : 0 ≤ m 14 3) (c1 : m 14 3 < 8) : Z e d 106 0 [.ref 14, .retAddr 0] [] m = ri (m 14 3) (um (uz m 15 (m 14 3 * 3) 3) 14 3 (m 14 3 + 1)) := T_add zTab_14 (by decide) (tOk_14 c0 (by omega)) c1
theorem any_14 (c0 : 0 ≤ m 14 3) (c1 : m 14 3 ≤ 8) (hr : Rng m) (hx : wr x = x) : Z e d 107 0 [.ref 14, .int (iI x), .retAddr 0] [] m = ri (bi (∃ i, 0 ≤ i ∧ i < m 14 3 ∧ m 15 (i * 3 + 0) = x)) m := T_any zTab_14 (tOk_14 c0 c1) hr hx
theorem get_14_n (hn : m 14 3 = 0) : Z e d 104 0 [.ref 14, .int (iI 0), .int (iI 0)] [] m = ri (-3) m := by
  rw [b_104_0 zTab_14, hn]
  exact if_pos (by decide)
theorem tOk_16 (h0 : 0 ≤ m 16 3) (h1 : m 16 3 ≤ 16) : tOk m 16 3 16 := ⟨h0, h1, by decide, by decide, by decide, by decide⟩
theorem get_16 (c0 : 0 ≤ m 16 3) (c1 : m 16 3 ≤ 16) (h0 : 0 ≤ i) (hn : i < m 16 3) (hj : 0 ≤ j) (hw : j < 3) : Z e d 104 0 [.ref 16, .int (iI i), .int (iI j)] [] m = ri (m 17 (i * 3 + j)) m := T_get zTab_16 (tOk_16 c0 c1) h0 hn hj hw
theorem set_16 (c0 : 0 ≤ m 16 3) (c1 : m 16 3 ≤ 16) (h0 : 0 ≤ i) (hn : i < m 16 3) (hj : 0 ≤ j) (hw : j < 3) : Z e d 105 0 [.ref 16, .int (iI i), .int (iI j), .int (iI x)] [] m = rn (um m 17 (i * 3 + j) x) := T_set zTab_16 (tOk_16 c0 c1) h0 hn hj hw
theorem add_16 (c0 : 0 ≤ m 16 3) (c1 : m 16 3 < 16) : Z e d 106 0 [.ref 16, .retAddr 0] [] m = ri (m 16 3) (um (uz m 17 (m 16 3 * 3) 3) 16 3 (m 16 3 + 1)) := T_add zTab_16 (by decide) (tOk_16 c0 (by omega)) c1
theorem any_16 (c0 : 0 ≤ m 16 3) (c1 : m 16 3 ≤ 16) (hr : Rng m) (hx : wr x = x) : Z e d 107 0 [.ref 16, .int (iI x), .retAddr 0] [] m = ri (bi (∃ i, 0 ≤ i ∧ i < m 16 3 ∧ m 17 (i * 3 + 0) = x)) m := T_any zTab_16 (tOk_16 c0 c1) hr hx
theorem get_16_n (hn : m 16 3 = 0) : Z e d 104 0 [.ref 16, .int (iI 0), .int (iI 0)] [] m = ri (-3) m := by
  rw [b_104_0 zTab_16, hn]
  exact if_pos (by decide)
theorem tOk_230 (h0 : 0 ≤ m 230 3) (h1 : m 230 3 ≤ 60) : tOk m 230 2 60 := ⟨h0, h1, by decide, by decide, by decide, by decide⟩
theorem get_230 (c0 : 0 ≤ m 230 3) (c1 : m 230 3 ≤ 60) (h0 : 0 ≤ i) (hn : i < m 230 3) (hj : 0 ≤ j) (hw : j < 2) : Z e d 104 0 [.ref 230, .int (iI i), .int (iI j)] [] m = ri (m 231 (i * 2 + j)) m := T_get zTab_230 (tOk_230 c0 c1) h0 hn hj hw
theorem set_230 (c0 : 0 ≤ m 230 3) (c1 : m 230 3 ≤ 60) (h0 : 0 ≤ i) (hn : i < m 230 3) (hj : 0 ≤ j) (hw : j < 2) : Z e d 105 0 [.ref 230, .int (iI i), .int (iI j), .int (iI x)] [] m = rn (um m 231 (i * 2 + j) x) := T_set zTab_230 (tOk_230 c0 c1) h0 hn hj hw
theorem add_230 (c0 : 0 ≤ m 230 3) (c1 : m 230 3 < 60) : Z e d 106 0 [.ref 230, .retAddr 0] [] m = ri (m 230 3) (um (uz m 231 (m 230 3 * 2) 2) 230 3 (m 230 3 + 1)) := T_add zTab_230 (by decide) (tOk_230 c0 (by omega)) c1
theorem any_230 (c0 : 0 ≤ m 230 3) (c1 : m 230 3 ≤ 60) (hr : Rng m) (hx : wr x = x) : Z e d 107 0 [.ref 230, .int (iI x), .retAddr 0] [] m = ri (bi (∃ i, 0 ≤ i ∧ i < m 230 3 ∧ m 231 (i * 2 + 0) = x)) m := T_any zTab_230 (tOk_230 c0 c1) hr hx
theorem get_230_n (hn : m 230 3 = 0) : Z e d 104 0 [.ref 230, .int (iI 0), .int (iI 0)] [] m = ri (-3) m := by
  rw [b_104_0 zTab_230, hn]
  exact if_pos (by decide)
theorem tOk_232 (h0 : 0 ≤ m 232 3) (h1 : m 232 3 ≤ 60) : tOk m 232 2 60 := ⟨h0, h1, by decide, by decide, by decide, by decide⟩
theorem get_232 (c0 : 0 ≤ m 232 3) (c1 : m 232 3 ≤ 60) (h0 : 0 ≤ i) (hn : i < m 232 3) (hj : 0 ≤ j) (hw : j < 2) : Z e d 104 0 [.ref 232, .int (iI i), .int (iI j)] [] m = ri (m 233 (i * 2 + j)) m := T_get zTab_232 (tOk_232 c0 c1) h0 hn hj hw
theorem set_232 (c0 : 0 ≤ m 232 3) (c1 : m 232 3 ≤ 60) (h0 : 0 ≤ i) (hn : i < m 232 3) (hj : 0 ≤ j) (hw : j < 2) : Z e d 105 0 [.ref 232, .int (iI i), .int (iI j), .int (iI x)] [] m = rn (um m 233 (i * 2 + j) x) := T_set zTab_232 (tOk_232 c0 c1) h0 hn hj hw
theorem add_232 (c0 : 0 ≤ m 232 3) (c1 : m 232 3 < 60) : Z e d 106 0 [.ref 232, .retAddr 0] [] m = ri (m 232 3) (um (uz m 233 (m 232 3 * 2) 2) 232 3 (m 232 3 + 1)) := T_add zTab_232 (by decide) (tOk_232 c0 (by omega)) c1
theorem any_232 (c0 : 0 ≤ m 232 3) (c1 : m 232 3 ≤ 60) (hr : Rng m) (hx : wr x = x) : Z e d 107 0 [.ref 232, .int (iI x), .retAddr 0] [] m = ri (bi (∃ i, 0 ≤ i ∧ i < m 232 3 ∧ m 233 (i * 2 + 0) = x)) m := T_any zTab_232 (tOk_232 c0 c1) hr hx
theorem get_232_n (hn : m 232 3 = 0) : Z e d 104 0 [.ref 232, .int (iI 0), .int (iI 0)] [] m = ri (-3) m := by
  rw [b_104_0 zTab_232, hn]
  exact if_pos (by decide)
end TN
