/-! The class splits a text into words. -/
section SW
variable {e : List Int32 × Value} {d : Nat} {m : zMm} {T : Int → Int} {L : Int}
theorem gon_all {P : Int → Prop} : ∀ (n : Nat) (p : Int), p + n = L → ∀ i, p ≤ i → i < gon P T L p → P (T i) := by
  intro n
  induction n with
  | zero => intro p hp i a b; rw [gon_n (by omega)] at b; omega
  | succ n ih =>
    intro p hp i a b
    by_cases q : p < L ∧ P (T p)
    · rw [gon_y q.1 q.2] at b
      by_cases z : i = p
      · rw [z]; exact q.2
      · exact ih (p + 1) (by omega) i (by omega) b
    · rw [gon_n q] at b; omega
theorem numS_b {s t : Int} (st : s ≤ t) (h : ∀ i, s ≤ i → i < t → isD (T i)) : 0 ≤ numS T s t ∧ numS T s t ≤ 1000 := by
  unfold numS
  by_cases q : 3 < t - s
  · rw [cif_t q]; decide
  · rw [cif_f q]
    have c : (t - s).toNat = 0 ∨ (t - s).toNat = 1 ∨ (t - s).toNat = 2 ∨ (t - s).toNat = 3 := by omega
    rcases c with z | z | z | z <;> rw [z]
    · exact ⟨Int.le_refl _, show (0 : Int) ≤ 1000 by decide⟩
    · have h0 := h s (by omega) (by omega)
      show 0 ≤ 0 * 10 + T s - 48 ∧ 0 * 10 + T s - 48 ≤ 1000
      omega
    · have h0 := h s (by omega) (by omega)
      have h1 := h (s + 1) (by omega) (by omega)
      show 0 ≤ (0 * 10 + T s - 48) * 10 + T (s + 1) - 48 ∧ (0 * 10 + T s - 48) * 10 + T (s + 1) - 48 ≤ 1000
      omega
    · have h0 := h s (by omega) (by omega)
      have h1 := h (s + 1) (by omega) (by omega)
      have h2 := h (s + 1 + 1) (by omega) (by omega)
      show 0 ≤ ((0 * 10 + T s - 48) * 10 + T (s + 1) - 48) * 10 + T (s + 1 + 1) - 48 ∧ ((0 * 10 + T s - 48) * 10 + T (s + 1) - 48) * 10 + T (s + 1 + 1) - 48 ≤ 1000
      omega
noncomputable def tS (T : Int → Int) (L : Int) : Nat → Int
  | 0 => gon isB T L 0
  | i + 1 => gon isB T L (tokE T L (tS T L i))
noncomputable def cW (T : Int → Int) (L s : Int) : Int := cif (s = L) 0 (cif (isD (T s)) 2 (wI T s (tokE T L s)))
noncomputable def cN (T : Int → Int) (L s : Int) : Int := cif (s < L ∧ isD (T s)) (numS T s (tokE T L s)) 0
def TKs (T : Int → Int) (L : Int) (n : Nat) (m : zMm) : Prop := ∀ i : Nat, i < n → m 182 (i : Int) = cW T L (tS T L i) ∧ m 183 (i : Int) = cN T L (tS T L i) ∧ m 184 (i : Int) = tS T L i ∧ tS T L i < L
def FS (m m' : zMm) : Prop := (∀ k, ¬ k = 179 → ¬ (182 ≤ k ∧ k ≤ 184) → m' k = m k) ∧ (∀ i, ¬ i = 6 → m' 179 i = m 179 i) ∧ Rng m'
theorem C_add {x y z n : Int} (hr : Rng m) (hx : 0 ≤ x ∧ x < 32) (hn : m 179 6 = n) (n0 : 0 ≤ n) (n1 : n ≤ 300) : Z e d 68 0 [.ref 179, .ref (10000 + x.toNat), .int (iI y), .int (iI z)] [] m = rn (um (um (um (um m 182 n x) 183 n y) 184 n z) 179 6 (n + 1)) := by
  have wn : wr n = n := wr_of (by omega) (by omega)
  have e1 : um m 182 n x 179 6 = n := by rw [um_k (by decide)]; exact hn
  have e2 : um (um m 182 n x) 183 n y 179 6 = n := by rw [um_k (by decide)]; exact e1
  have e3 : um (um (um m 182 n x) 183 n y) 184 n z 179 6 = n := by rw [um_k (by decide)]; exact e2
  rw [b_68_0 hx, hn, wn, itn (by omega), e1, wn, e2, wn, e3, ck_t (by omega), ck_t (by omega), ck_t (by omega)]
theorem FS.add {m' : zMm} {x y z n : Int} (F : FS m m') (wx : wr x = x) (wy : wr y = y) (wz : wr z = z) (wn : wr (n + 1) = n + 1) : FS m (um (um (um (um m' 182 n x) 183 n y) 184 n z) 179 6 (n + 1)) := by
  refine ⟨fun k k1 k2 => ?_, fun i hi => ?_, (((F.2.2.um wx).um wy).um wz).um wn⟩
  · rw [um_r k1, um_r (by omega), um_r (by omega), um_r (by omega)]; exact F.1 k k1 k2
  · rw [um_i hi, um_k (by decide), um_k (by decide), um_k (by decide)]; exact F.2.1 i hi
theorem TKs.add {m' : zMm} {n : Nat} {x y z : Int} (h : TKs T L n m') (h1 : x = cW T L (tS T L n)) (h2 : y = cN T L (tS T L n)) (h3 : z = tS T L n) (h4 : z < L) {w : Int} : TKs T L (n + 1) (um (um (um (um m' 182 (n : Int) x) 183 (n : Int) y) 184 (n : Int) z) 179 6 w) := by
  intro i hi
  have g2 : ∀ j, um (um (um (um m' 182 (n : Int) x) 183 (n : Int) y) 184 (n : Int) z) 179 6 w 182 j = um m' 182 (n : Int) x 182 j := fun j => by rw [um_k (by decide), um_k (by decide), um_k (by decide)]
  have g3 : ∀ j, um (um (um (um m' 182 (n : Int) x) 183 (n : Int) y) 184 (n : Int) z) 179 6 w 183 j = um (um m' 182 (n : Int) x) 183 (n : Int) y 183 j := fun j => by rw [um_k (by decide), um_k (by decide)]
  have g4 : ∀ j, um (um (um (um m' 182 (n : Int) x) 183 (n : Int) y) 184 (n : Int) z) 179 6 w 184 j = um (um (um m' 182 (n : Int) x) 183 (n : Int) y) 184 (n : Int) z 184 j := fun j => by rw [um_k (by decide)]
  rw [g2, g3, g4]
  by_cases q : i = n
  · subst q
    rw [um_s, um_s, um_s]
    exact ⟨h1, h2, h3, by rw [← h3]; exact h4⟩
  · have old := h i (by omega)
    rw [um_i (by omega), um_i (by omega), um_k (by decide), um_i (by omega), um_k (by decide), um_k (by decide)]
    exact old
theorem C_ends {p : Int} (hr : Rng m) (hL : m 179 1 = L) (l1 : L ≤ 300) : ∀ (n : Nat) (q : Int), q + n = L → 0 ≤ q → (Z e (d + 1) 67 27 [.ref 179, .int (iI p), .int (iI q)] [] m = Z e (d + 1) 67 49 [.ref 179, .int (iI p), .int (iI (gon isL (m 180) L q))] [] m) ∧ (Z e (d + 1) 67 72 [.ref 179, .int (iI p), .int (iI q)] [] m = Z e (d + 1) 67 94 [.ref 179, .int (iI p), .int (iI (gon isD (m 180) L q))] [] m) := by
  intro n
  induction n with
  | zero =>
    intro q hq q0
    rw [gon_n (by omega), gon_n (by omega)]
    refine ⟨(b_67_27).trans ?_, (b_67_72).trans ?_⟩
    · rw [hr 179 1, hL, wr_of (x := q) (by omega) (by omega), ck_t (by omega), itn (by omega)]
    · rw [hr 179 1, hL, wr_of (x := q) (by omega) (by omega), ck_t (by omega), itn (by omega)]
  | succ n ih =>
    intro q hq q0
    have i1 := ih (q + 1) (by omega) (by omega)
    have a1 : Z e (d + 1) 67 27 [.ref 179, .int (iI p), .int (iI q)] [] m = _ := b_67_27
    have a2 : Z e (d + 1) 67 72 [.ref 179, .int (iI p), .int (iI q)] [] m = _ := b_67_72
    rw [hr 179 1, hL, wr_of (x := q) (by omega) (by omega), hr 180 q, ck_t (by omega)] at a1 a2
    constructor
    · by_cases z : isL (m 180 q)
      · rw [itp ⟨by omega, z⟩] at a1
        rw [a1, i1.1, gon_y (P := isL) (by omega) z]
      · rw [itn (fun y => z y.2)] at a1
        rw [a1, gon_n (fun y => z y.2)]
    · by_cases z : isD (m 180 q)
      · rw [itp ⟨by omega, z⟩] at a2
        rw [a2, i1.2, gon_y (P := isD) (by omega) z]
      · rw [itn (fun y => z y.2)] at a2
        rw [a2, gon_n (fun y => z y.2)]
end SW
