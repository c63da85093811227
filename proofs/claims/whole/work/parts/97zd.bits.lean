/-! Reading: the class's codes on the values that wait. -/
section SD
theorem nat_bit (a : Nat) : a = 2 * (a / 2) + a % 2 := by omega
theorem and_bits (a b : Nat) : a &&& b = 2 * (a / 2 &&& b / 2) + (a % 2) * (b % 2) := by
  have h1 : (a &&& b) / 2 = a / 2 &&& b / 2 := Nat.and_div_two
  have h2 : (a &&& b) % 2 = (a % 2) * (b % 2) := by
    have : (a &&& b) % 2 = (a % 2 &&& b % 2) := by
      have := Nat.and_mod_two_pow (a := a) (b := b) (n := 1)
      simpa using this
    rw [this]
    rcases Nat.mod_two_eq_zero_or_one a with p | p <;> rcases Nat.mod_two_eq_zero_or_one b with q | q <;> rw [p, q] <;> decide
  omega
theorem or_bits (a b : Nat) : a ||| b = 2 * (a / 2 ||| b / 2) + (a % 2 ||| b % 2) := by
  have h1 : (a ||| b) / 2 = a / 2 ||| b / 2 := Nat.or_div_two
  have h2 : (a ||| b) % 2 = (a % 2 ||| b % 2) := by
    have := Nat.or_mod_two_pow (a := a) (b := b) (n := 1)
    simpa using this
  omega
theorem xor_bits (a b : Nat) : a ^^^ b = 2 * (a / 2 ^^^ b / 2) + (a % 2 ^^^ b % 2) := by
  have h1 : (a ^^^ b) / 2 = a / 2 ^^^ b / 2 := Nat.xor_div_two
  have h2 : (a ^^^ b) % 2 = (a % 2 ^^^ b % 2) := by
    have := Nat.xor_mod_two_pow (a := a) (b := b) (n := 1)
    simpa using this
  omega
theorem c_one {x : Int} (h0 : 0 ≤ x) (h1 : x < 2147483648) : jand x 1 = x % 2 := by
  rw [jand_n h0 h1 (by decide) (by decide), show (1 : Int).toNat = 1 from rfl, Nat.and_one_is_mod]
  omega
theorem c_not {x b : Int} (h0 : 0 ≤ x) (h1 : x < 1073741824) (hb : b = 0 ∨ b = 1) : jxor (2 * x + b) 1 = 2 * x + (1 - b) := by
  rw [jxor_n (by omega) (by omega) (by decide) (by decide), show (1 : Int).toNat = 1 from rfl, xor_bits, show (1 : Nat) / 2 = 0 from rfl, Nat.xor_zero]
  rcases hb with z | z <;> subst z
  · rw [show (2 * x + 0).toNat % 2 = 0 by omega, show (0 : Nat) ^^^ 1 % 2 = 1 from rfl]; omega
  · rw [show (2 * x + 1).toNat % 2 = 1 by omega, show (1 : Nat) ^^^ 1 % 2 = 0 from rfl]; omega
theorem c_orb {x b c : Int} (h0 : 0 ≤ x) (h1 : x < 1073741824) (hb : b = 0 ∨ b = 1) (hc : c = 0 ∨ c = 1) : jor (2 * x + b) c = 2 * x + jor b c := by
  have e : jor b c = if b = 1 ∨ c = 1 then 1 else 0 := by
    rcases hb with z | z <;> rcases hc with y | y <;> subst z <;> subst y <;> rfl
  rw [e, jor_n (by omega) (by omega) (by omega) (by omega), or_bits, show c.toNat / 2 = 0 by omega, Nat.or_zero]
  rcases hb with z | z <;> rcases hc with y | y <;> subst z <;> subst y
  · rw [show (2 * x + 0).toNat % 2 = 0 by omega, show (0 : Nat) ||| (0 : Int).toNat % 2 = 0 from rfl, if_neg (by decide)]; omega
  · rw [show (2 * x + 0).toNat % 2 = 0 by omega, show (0 : Nat) ||| (1 : Int).toNat % 2 = 1 from rfl, if_pos (by decide)]; omega
  · rw [show (2 * x + 1).toNat % 2 = 1 by omega, show (1 : Nat) ||| (0 : Int).toNat % 2 = 1 from rfl, if_pos (by decide)]; omega
  · rw [show (2 * x + 1).toNat % 2 = 1 by omega, show (1 : Nat) ||| (1 : Int).toNat % 2 = 1 from rfl, if_pos (by decide)]; omega
end SD
