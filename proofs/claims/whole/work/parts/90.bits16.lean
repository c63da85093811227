/-! Bits of sixteen. -/
section B16
theorem land_b {a b p q : Nat} (hb : b < 256) (hq : q < 256) : (256 * a + b) &&& (256 * p + q) = 256 * (a &&& p) + (b &&& q) := by
  have hbq : b &&& q < 2 ^ 8 := Nat.lt_of_le_of_lt Nat.and_le_left hb
  refine Nat.eq_of_testBit_eq (fun i => ?_)
  rw [Nat.testBit_and, show (256 : Nat) = 2 ^ 8 from rfl, Nat.testBit_two_pow_mul_add _ hb, Nat.testBit_two_pow_mul_add _ hq, Nat.testBit_two_pow_mul_add _ hbq]
  by_cases h : i < 8
  · rw [if_pos h, if_pos h, if_pos h, Nat.testBit_and]
  · rw [if_neg h, if_neg h, if_neg h, Nat.testBit_and]
def f1 (x : Nat) : Nat := x - ((x / 2) &&& 85)
def f2 (x : Nat) : Nat := (x &&& 51) + ((x / 4) &&& 51)
def f3 (x : Nat) : Nat := (x + x / 16) &&& 15
def pop8 (x : Nat) : Nat := x % 2 + x / 2 % 2 + x / 4 % 2 + x / 8 % 2 + x / 16 % 2 + x / 32 % 2 + x / 64 % 2 + x / 128 % 2
theorem q_a : ∀ x : Fin 256, ((x.val / 2) &&& 5592405) = ((x.val / 2) &&& 85) ∧ ((x.val / 2) &&& 85) ≤ x.val ∧ f1 x.val < 256 ∧ f2 (f1 x.val) ≤ 68 ∧ f2 (f1 x.val) % 16 ≤ 4 ∧ f3 (f2 (f1 x.val)) = pop8 x.val ∧ pop8 x.val ≤ 8 := by decide +kernel
theorem q_b : ∀ r : Fin 2, ∀ x : Fin 256, (128 * r.val + x.val / 2) &&& 85 = (x.val / 2) &&& 85 := by decide +kernel
theorem q_c : ∀ r : Fin 4, ∀ x : Fin 256, (64 * r.val + x.val / 4) &&& 51 = (x.val / 4) &&& 51 := by decide +kernel
theorem q_d : ∀ x : Fin 256, (x.val &&& 3355443) = (x.val &&& 51) ∧ ((x.val / 4) &&& 3355443) = ((x.val / 4) &&& 51) := by decide +kernel
theorem q_e : ∀ r : Fin 5, ∀ x : Fin 69, (x.val + 16 * r.val + x.val / 16) &&& 15 = (x.val + x.val / 16) &&& 15 ∧ (x.val + x.val / 16) &&& 986895 = (x.val + x.val / 16) &&& 15 := by decide +kernel
theorem q_f : ∀ a : Fin 9, ∀ b : Fin 9, (256 * a.val + (b.val + a.val)) &&& 63 = a.val + b.val := by decide +kernel
theorem hd_n1 {a b : Nat} (ha : a < 256) (hb : b < 256) : (256 * a + b) - (((256 * a + b) >>> 1) &&& 1431655765) = 256 * f1 a + f1 b ∧ ((256 * a + b) >>> 1) &&& 1431655765 ≤ 256 * a + b := by
  have h1 := q_a ⟨a, ha⟩
  have h2 := q_a ⟨b, hb⟩
  have h3 := q_b ⟨a % 2, by omega⟩ ⟨b, hb⟩
  dsimp only at h1 h2 h3
  have e1 : (256 * a + b) >>> 1 = 256 * (a / 2) + (128 * (a % 2) + b / 2) := by
    rw [Nat.shiftRight_eq_div_pow]
    omega
  have e2 : ((256 * a + b) >>> 1) &&& 1431655765 = 256 * ((a / 2) &&& 85) + ((b / 2) &&& 85) := by
    rw [e1, show (1431655765 : Nat) = 256 * 5592405 + 85 from rfl, land_b (by omega) (by decide), h1.1, h3]
  rw [e2]
  unfold f1
  omega
theorem hd_n2 {A B : Nat} (ha : A < 256) (hb : B < 256) : ((256 * A + B) &&& 858993459) + (((256 * A + B) >>> 2) &&& 858993459) = 256 * f2 A + f2 B := by
  have h1 := q_d ⟨A, ha⟩
  have h3 := q_c ⟨A % 4, by omega⟩ ⟨B, hb⟩
  dsimp only at h1 h3
  have e1 : (256 * A + B) >>> 2 = 256 * (A / 4) + (64 * (A % 4) + B / 4) := by
    rw [Nat.shiftRight_eq_div_pow]
    omega
  rw [e1, show (858993459 : Nat) = 256 * 3355443 + 51 from rfl, land_b hb (by decide), land_b (by omega) (by decide), h1.1, h1.2, h3]
  unfold f2
  omega
theorem hd_n3 {A B : Nat} (ha : A ≤ 68) (hb : B ≤ 68) (hm : A % 16 ≤ 4) : ((256 * A + B) + ((256 * A + B) >>> 4)) &&& 252645135 = 256 * f3 A + f3 B := by
  have h1 := q_e ⟨0, by decide⟩ ⟨A, by omega⟩
  have h3 := q_e ⟨A % 16, by omega⟩ ⟨B, by omega⟩
  dsimp only at h1 h3
  have e1 : (256 * A + B) + ((256 * A + B) >>> 4) = 256 * (A + A / 16) + (B + 16 * (A % 16) + B / 16) := by
    rw [Nat.shiftRight_eq_div_pow]
    omega
  rw [e1, show (252645135 : Nat) = 256 * 986895 + 15 from rfl, land_b (by omega) (by decide), h1.2, h3.1]
  rfl
theorem hd_n {n : Nat} (hn : n < 65536) {n1 n2 n3 n4 n5 : Nat} (e1 : n1 = n - ((n >>> 1) &&& 1431655765)) (e2 : n2 = (n1 &&& 858993459) + ((n1 >>> 2) &&& 858993459)) (e3 : n3 = (n2 + (n2 >>> 4)) &&& 252645135) (e4 : n4 = n3 + (n3 >>> 8)) (e5 : n5 = n4 + (n4 >>> 16)) : (n5 &&& 63 = pop8 (n / 256) + pop8 (n % 256)) ∧ (n >>> 1) &&& 1431655765 ≤ n ∧ n1 < 65536 ∧ n2 < 65536 ∧ n3 < 65536 ∧ n4 < 65536 ∧ n5 < 65536 := by
  have ha : n / 256 < 256 := by omega
  have hb : n % 256 < 256 := by omega
  have en : n = 256 * (n / 256) + n % 256 := by omega
  have h1 := q_a ⟨n / 256, ha⟩
  have h2 := q_a ⟨n % 256, hb⟩
  dsimp only at h1 h2
  have k1 := hd_n1 ha hb
  rw [← en] at k1
  rw [k1.1] at e1
  rw [e1, hd_n2 h1.2.2.1 h2.2.2.1] at e2
  rw [e2, hd_n3 h1.2.2.2.1 h2.2.2.2.1 h1.2.2.2.2.1, h1.2.2.2.2.2.1, h2.2.2.2.2.2.1] at e3
  have p1 := h1.2.2.2.2.2.2
  have p2 := h2.2.2.2.2.2.2
  have d1 := h1.2.2.1
  have d2 := h2.2.2.1
  have g1 := h1.2.2.2.1
  have g2 := h2.2.2.2.1
  have kk := k1.2
  generalize pop8 (n / 256) = A at *
  generalize pop8 (n % 256) = B at *
  have s8 : n3 >>> 8 = A := by
    rw [Nat.shiftRight_eq_div_pow]
    omega
  rw [e3, ← e3, s8, e3] at e4
  have s16 : n4 >>> 16 = 0 := by
    rw [Nat.shiftRight_eq_div_pow]
    omega
  have e5' : n5 = 256 * A + (B + A) := by
    rw [e5, s16, e4]
    omega
  have qf := q_f ⟨A, by omega⟩ ⟨B, by omega⟩
  dsimp only at qf
  generalize f2 (f1 (n / 256)) = U at *
  generalize f2 (f1 (n % 256)) = V at *
  generalize f1 (n / 256) = S at *
  generalize f1 (n % 256) = T at *
  refine ⟨by rw [e5']; exact qf, kk, ?_⟩
  clear en qf s8 s16 kk
  refine ⟨?_, ?_, ?_, ?_, ?_⟩ <;> omega
theorem jush_n {x : Int} (h0 : 0 ≤ x) (h1 : x < 2147483648) : ∀ s : Fin 32, jush x (s.val : Int) = ((x.toNat >>> s.val : Nat) : Int) := by
  intro s
  have hs : ((iI (s.val : Int)).toUInt32 &&& Int32.toUInt32 31).toNat = s.val := by
    have : ∀ s : Fin 32, ((iI (s.val : Int)).toUInt32 &&& Int32.toUInt32 31).toNat = s.val := by decide +kernel
    exact this s
  have hx : (iI x).toUInt32.toNat = x.toNat := iI_nat h0 (by omega)
  unfold jush
  refine bv_int (b := ((iI x).toUInt32 >>> ((iI (s.val : Int)).toUInt32 &&& Int32.toUInt32 31)).toBitVec) (n := x.toNat >>> s.val) ?_ ?_
  · show ((iI x).toUInt32 >>> ((iI (s.val : Int)).toUInt32 &&& Int32.toUInt32 31)).toNat = _
    rw [UInt32.toNat_shiftRight, hs, hx, Nat.mod_eq_of_lt s.isLt]
  · rw [Nat.shiftRight_eq_div_pow]
    exact Nat.lt_of_le_of_lt (Nat.div_le_self _ _) (by omega)
end B16
