/-! Bits. -/
theorem sh_amt : ∀ s : Fin 32, ((iI (s.val : Int) &&& 31).toBitVec.smod 32).toNat = s.val := by decide +kernel
theorem sh_amt' {s : Int} (h0 : 0 ≤ s) (h1 : s < 32) : ((iI s &&& 31).toBitVec.smod 32).toNat = s.toNat := by
  have h := sh_amt ⟨s.toNat, by omega⟩
  simp only [Int.toNat_of_nonneg h0] at h
  exact h
theorem jshr_n {x s : Int} (h0 : 0 ≤ s) (h1 : s < 32) : jshr x s = wr x / 2 ^ s.toNat := by
  have e1 : jshr x s = ((iI x).toBitVec.sshiftRight' ((iI s &&& 31).toBitVec.smod 32)).toInt := rfl
  rw [e1, BitVec.toInt_sshiftRight', sh_amt' h0 h1, Int.shiftRight_eq_div_pow]
  have e2 : (iI x).toBitVec.toInt = wr x := iI_toInt
  rw [e2]
  rfl
theorem jshl_1 : ∀ s : Fin 31, jshl 1 (s.val : Int) = 2 ^ s.val := by decide +kernel
theorem jshl1_n {s : Int} (h0 : 0 ≤ s) (h1 : s < 31) : jshl 1 s = 2 ^ s.toNat := by
  have h := jshl_1 ⟨s.toNat, by omega⟩
  simp only [Int.toNat_of_nonneg h0] at h
  exact h
theorem iI_nat {x : Int} (h0 : 0 ≤ x) (h1 : x < 4294967296) : (iI x).toBitVec.toNat = x.toNat := by
  have e1 : (iI x).toBitVec = BitVec.ofInt 32 x := rfl
  rw [e1, BitVec.toNat_ofInt]
  omega
theorem bv_int {b : BitVec 32} {n : Nat} (h : b.toNat = n) (hn : n < 2147483648) : b.toInt = n := by
  rw [BitVec.toInt_eq_toNat_of_lt (by omega), h]
theorem jand_n {x y : Int} (h0 : 0 ≤ x) (h1 : x < 2147483648) (h2 : 0 ≤ y) (h3 : y < 4294967296) : jand x y = ((x.toNat &&& y.toNat : Nat) : Int) := by
  have e1 : jand x y = ((iI x).toBitVec &&& (iI y).toBitVec).toInt := rfl
  rw [e1]
  refine bv_int ?_ (Nat.lt_of_le_of_lt Nat.and_le_left (by omega))
  rw [BitVec.toNat_and, iI_nat h0 (by omega), iI_nat h2 h3]
theorem jor_n {x y : Int} (h0 : 0 ≤ x) (h1 : x < 2147483648) (h2 : 0 ≤ y) (h3 : y < 2147483648) : jor x y = ((x.toNat ||| y.toNat : Nat) : Int) := by
  have e1 : jor x y = ((iI x).toBitVec ||| (iI y).toBitVec).toInt := rfl
  rw [e1]
  refine bv_int ?_ (Nat.or_lt_two_pow (n := 31) (by omega) (by omega))
  rw [BitVec.toNat_or, iI_nat h0 (by omega), iI_nat h2 (by omega)]
theorem jxor_n {x y : Int} (h0 : 0 ≤ x) (h1 : x < 2147483648) (h2 : 0 ≤ y) (h3 : y < 2147483648) : jxor x y = ((x.toNat ^^^ y.toNat : Nat) : Int) := by
  have e1 : jxor x y = ((iI x).toBitVec ^^^ (iI y).toBitVec).toInt := rfl
  rw [e1]
  refine bv_int ?_ (Nat.xor_lt_two_pow (n := 31) (by omega) (by omega))
  rw [BitVec.toNat_xor, iI_nat h0 (by omega), iI_nat h2 (by omega)]
theorem jor_0 {x : Int} (hx : wr x = x) : jor x 0 = x := by
  have e1 : jor x 0 = ((iI x).toBitVec ||| (iI 0).toBitVec).toInt := rfl
  have e2 : (iI 0).toBitVec = 0#32 := rfl
  rw [e1, e2, BitVec.or_zero]
  have e3 : (iI x).toBitVec.toInt = wr x := iI_toInt
  rw [e3, hx]
theorem jor_b {x y : Int} {n : Nat} (hn : n ≤ 31) (h0 : 0 ≤ x) (h1 : x < 2 ^ n) (h2 : 0 ≤ y) (h3 : y < 2 ^ n) : 0 ≤ jor x y ∧ jor x y < 2 ^ n := by
  have h31 : (2 : Int) ^ n ≤ 2147483648 := by
    have : (2 : Nat) ^ n ≤ 2 ^ 31 := Nat.pow_le_pow_right (by decide) hn
    have h4 : ((2 ^ n : Nat) : Int) ≤ ((2 ^ 31 : Nat) : Int) := Int.ofNat_le.mpr this
    simpa using h4
  rw [jor_n h0 (by omega) h2 (by omega)]
  refine ⟨by omega, ?_⟩
  have e : ((2 ^ n : Nat) : Int) = (2 : Int) ^ n := by simp
  have := Nat.or_lt_two_pow (x := x.toNat) (y := y.toNat) (n := n) (by omega) (by omega)
  omega
/-- the bit at h -/
def tb (x h : Int) : Prop := x.toNat.testBit h.toNat = true
theorem jbit {x h : Int} (h0 : 0 ≤ x) (h1 : x < 2147483648) (h2 : 0 ≤ h) (h3 : h < 31) : jand (jshr x h) 1 = bi (tb x h) := by
  have hx : wr x = x := wr_of (by omega) (by omega)
  have e1 : jshr x h = ((x.toNat / 2 ^ h.toNat : Nat) : Int) := by
    rw [jshr_n h2 (by omega), hx]
    have : x = (x.toNat : Int) := by omega
    rw [this]
    simp
  have hb : x.toNat / 2 ^ h.toNat ≤ x.toNat := Nat.div_le_self _ _
  rw [e1, jand_n (Int.natCast_nonneg _) (Int.lt_of_le_of_lt (Int.ofNat_le.mpr hb) (by omega)) (by decide) (by decide)]
  simp only [Int.toNat_natCast]
  rw [show (1 : Int).toNat = 1 from rfl, Nat.and_one_is_mod]
  unfold tb
  rw [Nat.testBit_eq_decide_div_mod_eq, decide_eq_true_eq]
  by_cases hh : x.toNat / 2 ^ h.toNat % 2 = 1
  · rw [bi_t hh, hh]
    rfl
  · rw [bi_f hh]
    omega
theorem tb_or {x y h : Int} (h0 : 0 ≤ x) (h1 : x < 2147483648) (h2 : 0 ≤ y) (h3 : y < 2147483648) : tb (jor x y) h ↔ tb x h ∨ tb y h := by
  unfold tb
  rw [jor_n h0 h1 h2 h3, Int.toNat_natCast, Nat.testBit_or, Bool.or_eq_true]
theorem tb_and {x y h : Int} (h0 : 0 ≤ x) (h1 : x < 2147483648) (h2 : 0 ≤ y) (h3 : y < 4294967296) : tb (jand x y) h ↔ tb x h ∧ tb y h := by
  unfold tb
  rw [jand_n h0 h1 h2 h3, Int.toNat_natCast, Nat.testBit_and, Bool.and_eq_true]
theorem tb_shl {s h : Int} (h0 : 0 ≤ s) (h1 : s < 31) (h2 : 0 ≤ h) : tb (jshl 1 s) h ↔ h = s := by
  unfold tb
  rw [jshl1_n h0 h1]
  have : ((2 : Int) ^ s.toNat).toNat = 2 ^ s.toNat := by
    have e : ((2 ^ s.toNat : Nat) : Int) = (2 : Int) ^ s.toNat := by simp
    rw [← e, Int.toNat_natCast]
  rw [this, Nat.testBit_two_pow, decide_eq_true_eq]
  omega
theorem tb_0 {h : Int} : ¬ tb 0 h := by
  unfold tb
  simp
theorem pow_b {s : Int} {n : Nat} (h0 : 0 ≤ s) (h1 : s < n) : (0 : Int) ≤ 2 ^ s.toNat ∧ (2 : Int) ^ s.toNat < 2 ^ n := by
  have e : ((2 ^ s.toNat : Nat) : Int) = (2 : Int) ^ s.toNat := by simp
  have e2 : ((2 ^ n : Nat) : Int) = (2 : Int) ^ n := by simp
  have : 2 ^ s.toNat < 2 ^ n := Nat.pow_lt_pow_right (by decide) (by omega)
  rw [← e, ← e2]
  exact ⟨Int.natCast_nonneg _, Int.ofNat_lt.mpr this⟩
/-- a set of bits, made one by one -/
theorem bset {P : Int → Prop} {n : Int} (h0 : 0 ≤ n) (h1 : n ≤ 31) : (0 ≤ itr (fun s b => cif (P s) (jor b (jshl 1 s)) b) 0 n.toNat 0 ∧ itr (fun s b => cif (P s) (jor b (jshl 1 s)) b) 0 n.toNat 0 < 2 ^ n.toNat) ∧ ∀ h, 0 ≤ h → (tb (itr (fun s b => cif (P s) (jor b (jshl 1 s)) b) 0 n.toNat 0) h ↔ h < n ∧ P h) := by
  have key : ∀ k : Nat, k ≤ 31 → (0 ≤ itr (fun s b => cif (P s) (jor b (jshl 1 s)) b) 0 k 0 ∧ itr (fun s b => cif (P s) (jor b (jshl 1 s)) b) 0 k 0 < 2 ^ k) ∧ ∀ h, 0 ≤ h → (tb (itr (fun s b => cif (P s) (jor b (jshl 1 s)) b) 0 k 0) h ↔ h < (k : Int) ∧ P h) := by
    intro k
    induction k with
    | zero =>
      intro _
      refine ⟨⟨by rw [itr]; omega, by rw [itr]; decide⟩, fun h hh => ?_⟩
      rw [itr]
      exact ⟨fun q => absurd q tb_0, fun q => by omega⟩
    | succ k ih =>
      intro hk
      obtain ⟨⟨b0, b1⟩, b2⟩ := ih (by omega)
      rw [itr_succ]
      generalize itr (fun s b => cif (P s) (jor b (jshl 1 s)) b) 0 k 0 = B at b0 b1 b2
      rw [Int.zero_add]
      have p1 := pow_b (s := (k : Int)) (n := k + 1) (by omega) (by omega)
      have p2 : (2 : Int) ^ k ≤ 2 ^ (k + 1) := by rw [Int.pow_succ]; omega
      have p3 : (2 : Int) ^ (k + 1) ≤ 2147483648 := by
        have : (2 : Nat) ^ (k + 1) ≤ 2 ^ 31 := Nat.pow_le_pow_right (by decide) hk
        have h4 : ((2 ^ (k + 1) : Nat) : Int) ≤ ((2 ^ 31 : Nat) : Int) := Int.ofNat_le.mpr this
        simpa using h4
      have s1 := jshl1_n (s := (k : Int)) (by omega) (by omega)
      by_cases hP : P k
      · rw [cif_t hP]
        have j1 := jor_b (x := B) (y := jshl 1 k) (n := k + 1) hk b0 (by omega) (by rw [s1]; omega) (by rw [s1]; omega)
        refine ⟨j1, fun h hh => ?_⟩
        rw [tb_or b0 (by omega) (by rw [s1]; omega) (by rw [s1]; omega), b2 h hh, tb_shl (by omega) (by omega) hh]
        constructor
        · rintro (⟨q1, q2⟩ | q)
          · exact ⟨by omega, q2⟩
          · rw [q]; exact ⟨by omega, hP⟩
        · rintro ⟨q1, q2⟩
          by_cases hq : h = k
          · exact Or.inr hq
          · exact Or.inl ⟨by omega, q2⟩
      · rw [cif_f hP]
        refine ⟨⟨b0, by omega⟩, fun h hh => ?_⟩
        rw [b2 h hh]
        constructor
        · rintro ⟨q1, q2⟩
          exact ⟨by omega, q2⟩
        · rintro ⟨q1, q2⟩
          by_cases hq : h = k
          · rw [hq] at q2; exact absurd q2 hP
          · exact ⟨by omega, q2⟩
  have := key n.toNat (by omega)
  rw [Int.toNat_of_nonneg h0] at this
  exact this
