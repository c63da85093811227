/-! Reading: what a piece of a condition does on both sides. -/
section SG
variable {m m' mm mm' : zMm} {T B : Int → Int} {L : Int} {n i j : Nat} {c c' l K H : Int}
/-- the class at word i with c codes and l lines -/
def CS (T : Int → Int) (L : Int) (n i : Nat) (c l : Int) (m : zMm) : Prop := RC T L n i m ∧ Rng m ∧ m 185 4 = c ∧ m 185 3 = l
/-- the reference at word i with c codes -/
def MS (B : Int → Int) (L : Int) (i : Nat) (c : Int) (m : zMm) : Prop := RR B L i m ∧ Rng m ∧ m 246 20 = c
/-- what stays in the class -/
def CF (l c : Int) (m m' : zMm) : Prop := (∀ k, ¬ (k = 179 ∨ k = 185 ∨ k = 189 ∨ k = 190) → m' k = m k) ∧ (∀ i, ¬ (i = 7 ∨ i = 8) → m' 179 i = m 179 i) ∧ (∀ i, ¬ i = 4 → m' 185 i = m 185 i) ∧ (∀ i, ¬ i = l - 1 → m' 189 i = m 189 i) ∧ (∀ q, q < c → m' 190 q = m 190 q)
/-- what stays in the reference -/
def MF (c : Int) (m m' : zMm) : Prop := (∀ k, ¬ (k = 246 ∨ k = 256) → m' k = m k) ∧ (∀ i, ¬ (15 ≤ i ∧ i ≤ 20) → m' 246 i = m 246 i) ∧ (∀ q, q < c → m' 256 q = m 256 q)
theorem CF.refl : CF l c m m := ⟨fun _ _ => rfl, fun _ _ => rfl, fun _ _ => rfl, fun _ _ => rfl, fun _ _ => rfl⟩
theorem MF.refl : MF c m m := ⟨fun _ _ => rfl, fun _ _ => rfl, fun _ _ => rfl⟩
theorem CF.trans {m2 : zMm} {c2 : Int} (h : CF l c m m') (h2 : CF l c2 m' m2) (hc : c ≤ c2) : CF l c m m2 := ⟨fun k hk => (h2.1 k hk).trans (h.1 k hk), fun k hk => (h2.2.1 k hk).trans (h.2.1 k hk), fun k hk => (h2.2.2.1 k hk).trans (h.2.2.1 k hk), fun k hk => (h2.2.2.2.1 k hk).trans (h.2.2.2.1 k hk), fun q hq => (h2.2.2.2.2 q (by omega)).trans (h.2.2.2.2 q hq)⟩
theorem MF.trans {m2 : zMm} {c2 : Int} (h : MF c m m') (h2 : MF c2 m' m2) (hc : c ≤ c2) : MF c m m2 := ⟨fun k hk => (h2.1 k hk).trans (h.1 k hk), fun k hk => (h2.2.1 k hk).trans (h.2.1 k hk), fun q hq => (h2.2.2 q (by omega)).trans (h.2.2 q hq)⟩
theorem MF.fx (h : FX m m') : MF c m m' := ⟨fun k hk => h.1 k (by omega), fun i hi => h.2.1 i (by omega), fun q _ => by rw [h.1 256 (by decide)]⟩
theorem CF.adv (x y : Int) : CF l c m (um (um m 179 7 x) 179 8 y) := ⟨fun k hk => by rw [um_r (by omega), um_r (by omega)], fun i hi => by rw [um_i (by omega), um_i (by omega)], fun i _ => by rw [um_k (by decide), um_k (by decide)], fun i _ => by rw [um_k (by decide), um_k (by decide)], fun q _ => by rw [um_k (by decide), um_k (by decide)]⟩
theorem CF.code (x y z : Int) : CF l c m (um (um (um m 190 c x) 185 4 y) 189 (l - 1) z) := ⟨fun k hk => by rw [um_r (by omega), um_r (by omega), um_r (by omega)], fun i hi => by rw [um_k (by decide), um_k (by decide), um_k (by decide)], fun i hi => by rw [um_k (by decide), um_i hi, um_k (by decide)], fun i hi => by rw [um_i hi, um_k (by decide), um_k (by decide)], fun q hq => by rw [um_k (by decide), um_k (by decide), um_i (by omega)]⟩
theorem MF.code (x y : Int) : MF c m (um (um m 256 c x) 246 20 y) := ⟨fun k hk => by rw [um_r (by omega), um_r (by omega)], fun i hi => by rw [um_i (by omega), um_k (by decide)], fun q hq => by rw [um_k (by decide), um_i (by omega)]⟩
theorem semF_cg {fl : Bool} {C C2 R R2 : Int → Int} {i j i' j' : Int} (h : semF fl K H C i j R i' j') (hc : ∀ q, i ≤ q → q < j → C2 q = C q) (hr : ∀ q, i' ≤ q → q < j' → R2 q = R q) : semF fl K H C2 i j R2 i' j' := by
  intro f k q1 q2
  obtain ⟨b, b1, b2, b3⟩ := h f k q1 q2
  refine ⟨b, b1, fun x x0 x1 => ?_, fun g h h0 hh => ?_⟩
  · rw [← b2 x x0 x1]
    unfold evC
    refine itr_cg _ _ _ (fun q y a b => ?_)
    by_cases z : i ≤ j
    · rw [hc q a (by omega)]
    · exfalso; omega
  · obtain ⟨g', g1, g2⟩ := b3 g h h0 hh
    refine ⟨g', ?_, g2⟩
    rw [← g1]
    unfold evR
    refine itr_cg _ _ _ (fun q y a b => ?_)
    by_cases z : i' ≤ j'
    · rw [hr q a (by omega)]
    · exfalso; omega
/-- both passed from word i to word j and say the same -/
def GOOD (T B : Int → Int) (L : Int) (n i j : Nat) (c c' l K H : Int) (m m' mm mm' : zMm) : Prop := i < j ∧ ∃ c1 c1', CS T L n j c1 l m' ∧ MS B L j c1' mm' ∧ CF l c m m' ∧ MF c' mm mm' ∧ c < c1 ∧ c1 - c ≤ c1' - c' ∧ 3 * (c1' - c') + 2 ≤ tokE B L (tS B L (j - 1)) - tS B L i ∧ m' 189 (l - 1) = c1 ∧ mm' 246 19 = mm 246 19 ∧ semF false K H (m' 190) c c1 (mm' 256) c' c1'
/-- both stand at the faulty word j -/
def BAD (T B : Int → Int) (L : Int) (n j : Nat) (c c' l : Int) (m m' mm mm' : zMm) : Prop := RC T L n j m' ∧ Rng m' ∧ CF l c m m' ∧ RX (tS B L j) mm' ∧ Rng mm' ∧ MF c' mm mm'
end SG
