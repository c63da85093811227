/-! Loops that fill. -/
section FL
variable {m m' : zMm} {c : Nat} {ix g : Int → Int} {n : Int}
def Fill (m : zMm) (c : Nat) (ix g : Int → Int) (n : Int) (m' : zMm) : Prop := (∀ k, ¬ k = c → m' k = m k) ∧ (∀ p, 0 ≤ p → p < n → m' c (ix p) = g p) ∧ (∀ i, (∀ p, 0 ≤ p → p < n → ¬ i = ix p) → m' c i = m c i)
theorem Fill.zero : Fill m c ix g 0 m := ⟨fun _ _ => rfl, fun p h1 h2 => by omega, fun _ _ => rfl⟩
theorem Fill.step (hn : 0 ≤ n) (hinj : ∀ p, 0 ≤ p → p < n → ¬ ix p = ix n) (h : Fill m c ix g n m') : Fill m c ix g (n + 1) (um m' c (ix n) (g n)) := by
  refine ⟨fun k hk => by rw [um_r hk]; exact h.1 k hk, fun p h1 h2 => ?_, fun i hi => ?_⟩
  · by_cases hp : p = n
    · rw [hp, um_s]
    · rw [um_i (hinj p h1 (by omega))]
      exact h.2.1 p h1 (by omega)
  · rw [um_i (hi n hn (by omega))]
    exact h.2.2 i (fun p h1 h2 => hi p h1 (by omega))
theorem Fill.rng (hr : Rng m) (hg : ∀ p, 0 ≤ p → p < n → wr (g p) = g p) (h : Fill m c ix g n m') : Rng m' := by
  intro k i
  by_cases hk : k = c
  · rw [hk]
    by_cases hi : ∃ p, 0 ≤ p ∧ p < n ∧ i = ix p
    · obtain ⟨p, h1, h2, h3⟩ := hi
      rw [h3, h.2.1 p h1 h2]
      exact hg p h1 h2
    · rw [h.2.2 i (fun p h1 h2 h3 => hi ⟨p, h1, h2, h3⟩)]
      exact hr c i
  · rw [h.1 k hk]
    exact hr k i
theorem lpM {β : Type} {F : Int → zMm → β} (hn : 0 ≤ n) (hinj : ∀ p q, 0 ≤ p → p < q → q < n → ¬ ix p = ix q) (hs : ∀ i m', 0 ≤ i → i < n → Fill m c ix g i m' → F i m' = F (i + 1) (um m' c (ix i) (g i))) : ∃ m', F 0 m = F n m' ∧ Fill m c ix g n m' := by
  have : ∀ k : Nat, (k : Int) ≤ n → ∃ m', F 0 m = F k m' ∧ Fill m c ix g k m' := by
    intro k
    induction k with
    | zero => intro _; exact ⟨m, rfl, Fill.zero⟩
    | succ k ih =>
      intro hk
      obtain ⟨m', h1, h2⟩ := ih (by omega)
      refine ⟨_, h1.trans (hs k m' (by omega) (by omega) h2), ?_⟩
      exact Fill.step (by omega) (fun p g1 g2 => hinj p k g1 g2 (by omega)) h2
  have h := this n.toNat (by omega)
  rw [Int.toNat_of_nonneg hn] at h
  exact h
end FL
