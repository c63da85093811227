/-! Reading: the class's codes on the values that wait. -/
section SD
theorem nat_bit (a : Nat) : a = 2 * (a / 2) + a % 2 := by omega
theorem and_bits (a b : Nat) : a &&& b = 2 * (a / 2 &&& b / 2) + (a % 2) * (b % 2) := by
  have h1 : (a &&& b) / 2 = a / 2 &&& b / 2 := Nat.and_div_two
  have h2 : (a &&& b) % 2 = (a % 2) * (b % 2) := by
    have : (a &&& b) % 2 = (a % 2 &&& b % 2) := by
      have := Nat.and_mod_two_pow (a := a) (b := b) (n := 1)
      simpa using this
    rw [this]
    rcases Nat.mod_two_eq_zero_or_one a with p | p <;> rcases Nat.mod_two_eq_zero_or_one b with q | q <;> rw [p, q] <;> decide
  omega
theorem or_bits (a b : Nat) : a ||| b = 2 * (a / 2 ||| b / 2) + (a % 2 ||| b % 2) := by
  have h1 : (a ||| b) / 2 = a / 2 ||| b / 2 := Nat.or_div_two
  have h2 : (a ||| b) % 2 = (a % 2 ||| b % 2) := by
    have := Nat.or_mod_two_pow (a := a) (b := b) (n := 1)
    simpa using this
  omega
theorem xor_bits (a b : Nat) : a ^^^ b = 2 * (a / 2 ^^^ b / 2) + (a % 2 ^^^ b % 2) := by
  have h1 : (a ^^^ b) / 2 = a / 2 ^^^ b / 2 := Nat.xor_div_two
  have h2 : (a ^^^ b) % 2 = (a % 2 ^^^ b % 2) := by
    have := Nat.xor_mod_two_pow (a := a) (b := b) (n := 1)
    simpa using this
  omega
theorem c_one {x : Int} (h0 : 0 ≤ x) (h1 : x < 2147483648) : jand x 1 = x % 2 := by
  rw [jand_n h0 h1 (by decide) (by decide), show (1 : Int).toNat = 1 from rfl, Nat.and_one_is_mod]
  omega
theorem c_not {x b : Int} (h0 : 0 ≤ x) (h1 : x < 1073741824) (hb : b = 0 ∨ b = 1) : jxor (2 * x + b) 1 = 2 * x + (1 - b) := by
  rw [jxor_n (by omega) (by omega) (by decide) (by decide), show (1 : Int).toNat = 1 from rfl, xor_bits, show (1 : Nat) / 2 = 0 from rfl, Nat.xor_zero]
  rcases hb with z | z <;> subst z
  · rw [show (2 * x + 0).toNat % 2 = 0 by omega, show (0 : Nat) ^^^ 1 % 2 = 1 from rfl]; omega
  · rw [show (2 * x + 1).toNat % 2 = 1 by omega, show (1 : Nat) ^^^ 1 % 2 = 0 from rfl]; omega
theorem c_orb {x b c : Int} (h0 : 0 ≤ x) (h1 : x < 1073741824) (hb : b = 0 ∨ b = 1) (hc : c = 0 ∨ c = 1) : jor (2 * x + b) c = 2 * x + jor b c := by
  have e : jor b c = if b = 1 ∨ c = 1 then 1 else 0 := by
    rcases hb with z | z <;> rcases hc with y | y <;> subst z <;> subst y <;> rfl
  rw [e, jor_n (by omega) (by omega) (by omega) (by omega), or_bits, show c.toNat / 2 = 0 by omega, Nat.or_zero]
  rcases hb with z | z <;> rcases hc with y | y <;> subst z <;> subst y
  · rw [show (2 * x + 0).toNat % 2 = 0 by omega, show (0 : Nat) ||| (0 : Int).toNat % 2 = 0 from rfl, if_neg (by decide)]; omega
  · rw [show (2 * x + 0).toNat % 2 = 0 by omega, show (0 : Nat) ||| (1 : Int).toNat % 2 = 1 from rfl, if_pos (by decide)]; omega
  · rw [show (2 * x + 1).toNat % 2 = 1 by omega, show (1 : Nat) ||| (0 : Int).toNat % 2 = 1 from rfl, if_pos (by decide)]; omega
  · rw [show (2 * x + 1).toNat % 2 = 1 by omega, show (1 : Nat) ||| (1 : Int).toNat % 2 = 1 from rfl, if_pos (by decide)]; omega
theorem c_shr {y b : Int} (h0 : 0 ≤ y) (h1 : y < 1073741824) (hb : b = 0 ∨ b = 1) : jshr (2 * y + b) 1 = y := by
  rw [jshr_n (by decide) (by decide), wr_of (by omega) (by omega), show (2 : Int) ^ (1 : Int).toNat = 2 from rfl]
  omega
theorem c_m1 {y : Int} (h0 : 0 ≤ y) (h1 : y < 2147483648) : jand y (-1) = y := by
  have e : jand y (-1) = jand y 4294967295 := by
    show (iI y &&& iI (-1)).toInt = (iI y &&& iI 4294967295).toInt
    rw [show iI (-1) = iI 4294967295 by decide]
  rw [e, jand_n h0 h1 (by decide) (by decide), show (4294967295 : Int).toNat = 2 ^ 32 - 1 from rfl, Nat.and_two_pow_sub_one_eq_mod]
  omega
theorem c_m2 {x b : Int} (h0 : 0 ≤ x) (h1 : x < 1073741824) (hb : b = 0 ∨ b = 1) : jand (2 * x + b) (-2) = 2 * x := by
  have e : jand (2 * x + b) (-2) = jand (2 * x + b) 4294967294 := by
    show (iI (2 * x + b) &&& iI (-2)).toInt = (iI (2 * x + b) &&& iI 4294967294).toInt
    rw [show iI (-2) = iI 4294967294 by decide]
  rw [e, jand_n (by omega) (by omega) (by decide) (by decide), and_bits, show (4294967294 : Int).toNat / 2 = 2 ^ 31 - 1 from rfl, Nat.and_two_pow_sub_one_eq_mod, show (4294967294 : Int).toNat % 2 = 0 from rfl]
  omega
theorem c_shl {x : Int} (h0 : 0 ≤ x) (h1 : x < 1073741824) : jshl x 1 = 2 * x := by
  have e1 : jshl x 1 = ((iI x).toBitVec <<< 1).toInt := by
    show (iI x <<< (iI 1 &&& 31)).toBitVec.toInt = _
    rw [show iI 1 &&& 31 = iI 1 by decide]
    rfl
  rw [e1]
  have e2 : ((iI x).toBitVec <<< 1).toNat = 2 * x.toNat := by
    rw [BitVec.toNat_shiftLeft, iI_nat h0 (by omega), Nat.shiftLeft_eq]
    omega
  rw [bv_int e2 (by omega)]
  omega
end SD
