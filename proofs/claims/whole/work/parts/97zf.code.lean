/-! Reading: a code more on each side. -/
section SF
variable {e : List Int32 × Value} {d : Nat} {m : zMm}
theorem C_code {q v n l : Int} (hr : Rng m) (hn : m 185 4 = n) (n0 : 0 ≤ n) (n1 : n < 100) (hl : m 185 3 = l) (l0 : 1 ≤ l) (l1 : l ≤ 10) : Z e d 113 0 [.ref 185, .int (iI q), .int (iI v)] [] m = rn (um (um (um m 190 n (q * 1000 + v)) 185 4 (n + 1)) 189 (l - 1) (n + 1)) := by
  have e1 : um m 190 n (q * 1000 + v) 185 4 = n := by rw [um_k (by decide)]; exact hn
  have e2 : um (um m 190 n (q * 1000 + v)) 185 4 (n + 1) 185 3 = l := by rw [um_i (by decide), um_k (by decide)]; exact hl
  rw [b_113_0, hr 185 4, hr 185 3, hn, hl, itn (by omega), e1, e2, wr_of (x := l - 1) (by omega) (by omega), um_s, ck_t (by omega), ck_t (by omega)]
theorem M_code {x n : Int} (hr : Rng m) (h18 : m 246 18 = 0) (hn : m 246 20 = n) (n0 : 0 ≤ n) (n1 : n < 120) : Z e d 234 0 [.ref 246, .int (iI x)] [] m = rn (um (um m 256 n x) 246 20 (n + 1)) := by
  rw [b_234_0, hr 246 18, h18, itp rfl, hr 246 20, hn, ck_t (by omega), um_k (by decide), hn]
end SF
