/-! Reading: both at word i; a step on. -/
section SY
variable {e : List Int32 × Value} {d : Nat} {m : zMm} {T B : Int → Int} {L : Int} {n i : Nat}
theorem j8_L {x : Int} (x0 : 0 ≤ x) (x1 : x < 256) : (isL (j8 x) ↔ isL x) ∧ (isD (j8 x) ↔ isD x) ∧ (isB (j8 x) ↔ isB x) := by
  have : j8 x = x ∨ (128 ≤ x ∧ j8 x < 0) := by unfold j8; omega
  rcases this with z | z
  · rw [z]; exact ⟨Iff.rfl, Iff.rfl, Iff.rfl⟩
  · refine ⟨?_, ?_, ?_⟩ <;> constructor <;> intro h <;> omega
/-- the class's tape and the reference's -/
def TB (T B : Int → Int) (L : Int) : Prop := (0 ≤ L ∧ L ≤ 300) ∧ ∀ i, 0 ≤ i → i < L → T i = j8 (B i) ∧ 0 ≤ B i ∧ B i < 256
theorem TB.gL (h : TB T B L) {p : Int} (p0 : 0 ≤ p) (p1 : p ≤ L) : gon isL T L p = gon isL B L p ∧ gon isD T L p = gon isD B L p ∧ gon isB T L p = gon isB B L p := by
  refine ⟨gon_cg (L - p).toNat p (by omega) (fun i a b => ?_), gon_cg (L - p).toNat p (by omega) (fun i a b => ?_), gon_cg (L - p).toNat p (by omega) (fun i a b => ?_)⟩
  · have q := h.2 i (by omega) b; rw [q.1]; exact (j8_L q.2.1 q.2.2).1
  · have q := h.2 i (by omega) b; rw [q.1]; exact (j8_L q.2.1 q.2.2).2.1
  · have q := h.2 i (by omega) b; rw [q.1]; exact (j8_L q.2.1 q.2.2).2.2
theorem TB.tok (h : TB T B L) {s : Int} (s0 : 0 ≤ s) (s1 : s ≤ L) : tokE T L s = tokE B L s ∧ tokK T L s = tokK B L s := by
  unfold tokE tokK
  by_cases z : s = L
  · rw [cif_t z, cif_t z, cif_t z, cif_t z]; exact ⟨rfl, rfl⟩
  · have q := h.2 s s0 (by omega)
    have j := j8_L q.2.1 q.2.2
    rw [cif_f z, cif_f z, cif_f z, cif_f z, q.1, (h.gL (p := s + 1) (by omega) (by omega)).1, (h.gL (p := s + 1) (by omega) (by omega)).2.1, propext j.1, propext j.2.1]
    exact ⟨rfl, rfl⟩
theorem tS_b (l0 : 0 ≤ L) : ∀ i : Nat, 0 ≤ tS T L i ∧ tS T L i ≤ L := by
  intro i
  induction i with
  | zero =>
    have := gon_le (P := isB) (B := T) (L := L) (p := 0) l0
    show 0 ≤ gon isB T L 0 ∧ gon isB T L 0 ≤ L
    exact ⟨this.1, this.2.1⟩
  | succ i ih =>
    have b := tokE_b (B := T) ih.2
    have := gon_le (P := isB) (B := T) (L := L) (p := tokE T L (tS T L i)) b.2.1
    show 0 ≤ gon isB T L (tokE T L (tS T L i)) ∧ gon isB T L (tokE T L (tS T L i)) ≤ L
    exact ⟨by omega, this.2.1⟩
theorem TB.ts (h : TB T B L) : ∀ i : Nat, tS T L i = tS B L i := by
  intro i
  induction i with
  | zero => exact (h.gL (by decide) h.1.1).2.2
  | succ i ih =>
    have b := tS_b (T := B) h.1.1 i
    have c := tokE_b (B := B) b.2
    show gon isB T L (tokE T L (tS T L i)) = gon isB B L (tokE B L (tS B L i))
    rw [ih, (h.tok b.1 b.2).1, (h.gL (by omega) c.2.1).2.2]
/-- the class at word i of n -/
def RC (T : Int → Int) (L : Int) (n i : Nat) (m : zMm) : Prop := (m 179 7 = (i : Int) ∧ m 179 8 = cW T L (tS T L i) ∧ i ≤ n ∧ (n : Int) ≤ 300 ∧ m 179 6 = (n : Int) + 1) ∧ TKs T L n m ∧ (m 182 (n : Int) = 0 ∧ m 183 (n : Int) = 0 ∧ m 184 (n : Int) = L) ∧ tS T L n = L
/-- the reference at word i -/
def RR (B : Int → Int) (L : Int) (i : Nat) (m : zMm) : Prop := m 246 15 = tS B L i ∧ m 246 16 = tokE B L (tS B L i) ∧ m 246 17 = tokK B L (tS B L i) ∧ m 246 18 = 0 ∧ m 249 = B ∧ m 246 4 = L
theorem RC.word (h : RC T L n i m) : 0 ≤ m 179 8 ∧ m 179 8 < 32 := by rw [h.1.2.1]; exact cW_b
theorem RC.at (h : RC T L n i m) : m 183 (i : Int) = cN T L (tS T L i) ∧ m 184 (i : Int) = tS T L i ∧ m 182 (i : Int) = cW T L (tS T L i) := by
  by_cases q : i < n
  · have k := h.2.1 i q
    exact ⟨k.2.1, k.2.2.1, k.1⟩
  · have z : i = n := by have := h.1.2.2.1; omega
    subst z
    refine ⟨?_, ?_, ?_⟩
    · rw [h.2.2.1.2.1, h.2.2.2]; unfold cN; rw [cif_f (fun y => by omega)]
    · rw [h.2.2.1.2.2, h.2.2.2]
    · rw [h.2.2.1.1, h.2.2.2]; unfold cW; rw [cif_t rfl]
theorem RC.adv (h : RC T L n i m) (hr : Rng m) (hi : i < n) : Z e d 74 0 [.ref 179] [] m = rn (um (um m 179 7 ((i : Int) + 1)) 179 8 (cW T L (tS T L (i + 1)))) ∧ RC T L n (i + 1) (um (um m 179 7 ((i : Int) + 1)) 179 8 (cW T L (tS T L (i + 1)))) ∧ Rng (um (um m 179 7 ((i : Int) + 1)) 179 8 (cW T L (tS T L (i + 1)))) := by
  have wb := cW_b (T := T) (L := L) (s := tS T L (i + 1))
  obtain ⟨h1, h2, h3, h4⟩ := h
  have a : m 182 ((i : Int) + 1) = cW T L (tS T L (i + 1)) := by
    by_cases q : i + 1 < n
    · have := (h2 (i + 1) q).1
      rw [← this]
      rfl
    · have z : i + 1 = n := by omega
      have z' : (i : Int) + 1 = (n : Int) := by omega
      rw [z', h3.1, z, h4]; unfold cW; rw [cif_t rfl]
  refine ⟨?_, ⟨⟨?_, ?_, by omega, h1.2.2.2.1, ?_⟩, ?_, ?_, h4⟩, (hr.um (wr_of (by omega) (by omega))).um (wr_of (by omega) (by omega))⟩
  · rw [b_74_0, hr 179 6, hr 179 7, h1.1, h1.2.2.2.2, wr_of (x := (i : Int) + 1) (by omega) (by omega), itn (by omega), um_s, wr_of (x := (i : Int) + 1) (by omega) (by omega), um_k (by decide), a, ck_t (by omega)]
  · rw [um_i (by decide), um_s]; rfl
  · rw [um_s]
  · rw [um_i (by decide), um_i (by decide)]; exact h1.2.2.2.2
  · intro j hj
    rw [um_k (by decide), um_k (by decide), um_k (by decide), um_k (by decide), um_k (by decide), um_k (by decide)]
    exact h2 j hj
  · rw [um_k (by decide), um_k (by decide), um_k (by decide), um_k (by decide), um_k (by decide), um_k (by decide)]
    exact h3
end SY
