/-! Words for contracts. -/
theorem itp {α : Type} {c : Prop} [Decidable c] {a b : α} (h : c) : (if c then a else b) = a := if_pos h
theorem itn {α : Type} {c : Prop} [Decidable c] {a b : α} (h : ¬ c) : (if c then a else b) = b := if_neg h
theorem um_e {m : zMm} {k k' : Nat} {i i' x : Int} (hk : k' = k) (hi : i' = i) : um m k i x k' i' = x := if_pos ⟨hk, hi⟩
theorem ck_T {α : Type} {X : Option α} [Decidable True] : ck True X = X := ck_t trivial
theorem lt_T {a b : Int} (h : a < b) : (a < b) = True := eq_true h
theorem lt_F {a b : Int} (h : ¬ a < b) : (a < b) = False := eq_false h
theorem le_T {a b : Int} (h : a ≤ b) : (a ≤ b) = True := eq_true h
theorem le_F {a b : Int} (h : ¬ a ≤ b) : (a ≤ b) = False := eq_false h
theorem eq_T {a b : Int} (h : a = b) : (a = b) = True := eq_true h
theorem eq_F {a b : Int} (h : ¬ a = b) : (a = b) = False := eq_false h
noncomputable def bi (P : Prop) : Int := @ite Int P (Classical.propDecidable P) 1 0
theorem bi_if {P : Prop} [Decidable P] : (if P then (1 : Int) else 0) = bi P := by
  unfold bi
  by_cases h : P
  · rw [if_pos h, if_pos h]
  · rw [if_neg h, if_neg h]
theorem bi_t {P : Prop} (h : P) : bi P = 1 := if_pos h
theorem bi_f {P : Prop} (h : ¬ P) : bi P = 0 := if_neg h
theorem bi_T : bi True = 1 := bi_t trivial
theorem bi_F : bi False = 0 := bi_f id
theorem bi_cg {P Q : Prop} (h : P ↔ Q) : bi P = bi Q := by rw [propext h]
theorem bi_01 {P : Prop} : bi P = 0 ∨ bi P = 1 := by
  by_cases h : P
  · exact Or.inr (bi_t h)
  · exact Or.inl (bi_f h)
theorem bi_e0 {P : Prop} : bi P = 0 ↔ ¬ P := by
  by_cases h : P
  · rw [bi_t h]; simp [h]
  · rw [bi_f h]; simp [h]
theorem bi_e1 {P : Prop} : bi P = 1 ↔ P := by
  by_cases h : P
  · rw [bi_t h]; simp [h]
  · rw [bi_f h]; simp [h]
theorem wr_bi {P : Prop} : wr (bi P) = bi P := by
  rcases bi_01 (P := P) with h | h <;> rw [h] <;> rfl
theorem nbp_bi {P : Prop} : nbp (bi P) := by
  rcases bi_01 (P := P) with h | h <;> rw [h] <;> rfl
/-- k turns from j on -/
def itr {α : Type} (f : Int → α → α) : Int → Nat → α → α
  | _, 0, x => x
  | j, k + 1, x => itr f (j + 1) k (f j x)
theorem itr_cg {α : Type} {f g : Int → α → α} : ∀ (k : Nat) (j : Int) (x : α), (∀ i y, j ≤ i → i < j + k → f i y = g i y) → itr f j k x = itr g j k x
  | 0, _, _, _ => rfl
  | k + 1, j, x, h => by
    rw [itr, itr, h j x (by omega) (by omega)]
    exact itr_cg k (j + 1) _ (fun i y h1 h2 => h i y (by omega) (by omega))
theorem itr_succ {α : Type} {f : Int → α → α} : ∀ (k : Nat) (j : Int) (x : α), itr f j (k + 1) x = f (j + k) (itr f j k x)
  | 0, j, x => by simp [itr]
  | k + 1, j, x => by
    rw [itr, itr_succ k (j + 1), itr]
    congr 1
    omega
/-- a loop that counts up -/
theorem lp {α β : Type} {F : Int → α → β} {f : Int → α → α} {n : Int} : ∀ (k : Nat) (j : Int) (x : α), j + k = n → (∀ i y, j ≤ i → i < n → F i y = F (i + 1) (f i y)) → F j x = F n (itr f j k x)
  | 0, j, x, hk, _ => by
    have : j = n := by omega
    rw [this]
    rfl
  | k + 1, j, x, hk, h => by
    rw [h j x (by omega) (by omega), itr]
    exact lp k (j + 1) _ (by omega) (fun i y h1 h2 => h i y (by omega) h2)
theorem lp0 {α β : Type} {F : Int → α → β} {f : Int → α → α} {n : Int} {x : α} (hn : 0 ≤ n) (h : ∀ i y, 0 ≤ i → i < n → F i y = F (i + 1) (f i y)) : F 0 x = F n (itr f 0 n.toNat x) := lp n.toNat 0 x (by omega) h
/-- with what stays true -/
theorem lpI {α β : Type} {F : Int → α → β} {f : Int → α → α} {I : Int → α → Prop} {n : Int} : ∀ (k : Nat) (j : Int) (x : α), j + k = n → I j x → (∀ i y, j ≤ i → i < n → I i y → F i y = F (i + 1) (f i y) ∧ I (i + 1) (f i y)) → F j x = F n (itr f j k x) ∧ I n (itr f j k x)
  | 0, j, x, hk, h0, _ => by
    have : j = n := by omega
    subst this
    exact ⟨rfl, h0⟩
  | k + 1, j, x, hk, h0, h => by
    have h1 := h j x (by omega) (by omega) h0
    rw [h1.1, itr]
    exact lpI k (j + 1) _ (by omega) h1.2 (fun i y h1 h2 => h i y (by omega) h2)
/-- a loop that looks for the first -/
theorem lpE {β : Type} {F : Int → β} {P : Int → Prop} {n : Int} {A : Int → β} {B : β} : ∀ (k : Nat) (j : Int), j + k = n → (∀ i, j ≤ i → i < n → P i → F i = A i) → (∀ i, j ≤ i → i < n → ¬ P i → F i = F (i + 1)) → F n = B → (∃ i, j ≤ i ∧ i < n ∧ P i ∧ (∀ i', j ≤ i' → i' < i → ¬ P i') ∧ F j = A i) ∨ ((∀ i, j ≤ i → i < n → ¬ P i) ∧ F j = B)
  | 0, j, hk, _, _, hB => by
    have : j = n := by omega
    subst this
    exact Or.inr ⟨fun i h1 h2 => by omega, hB⟩
  | k + 1, j, hk, hA, hS, hB => by
    by_cases h : P j
    · exact Or.inl ⟨j, by omega, by omega, h, fun i' h1 h2 => by omega, hA j (by omega) (by omega) h⟩
    · rcases lpE k (j + 1) (by omega) (fun i h1 h2 => hA i (by omega) h2) (fun i h1 h2 => hS i (by omega) h2) hB with ⟨i, h1, h2, h3, h4, h5⟩ | ⟨h1, h2⟩
      · refine Or.inl ⟨i, by omega, h2, h3, fun i' h6 h7 => ?_, ?_⟩
        · by_cases h8 : i' = j
          · rw [h8]; exact h
          · exact h4 i' (by omega) h7
        · rw [hS j (by omega) (by omega) h, h5]
      · refine Or.inr ⟨fun i h6 h7 => ?_, ?_⟩
        · by_cases h8 : i = j
          · rw [h8]; exact h
          · exact h1 i (by omega) h7
        · rw [hS j (by omega) (by omega) h, h2]
/-- numbers in range -/
def inr (x : Int) : Prop := -2147483648 ≤ x ∧ x < 2147483648
def Rng (m : zMm) : Prop := ∀ k i, wr (m k i) = m k i
theorem Rng.um {m : zMm} {k : Nat} {i x : Int} (h : Rng m) (hx : wr x = x) : Rng (um m k i x) := by
  intro k' i'
  unfold Jvm.Pilot.CPeaceRingLaw_law_r3750_532f90.um
  split
  · exact hx
  · exact h k' i'
theorem mulb {i n w j : Int} (h0 : 0 ≤ i) (h1 : i < n) (h2 : 0 ≤ j) (h3 : j < w) : 0 ≤ i * w + j ∧ i * w + j < n * w := by
  have h4 : 0 ≤ i * w := Int.mul_nonneg h0 (by omega)
  have h5 : (i + 1) * w ≤ n * w := Int.mul_le_mul_of_nonneg_right (by omega) (by omega)
  rw [Int.add_mul, Int.one_mul] at h5
  omega
