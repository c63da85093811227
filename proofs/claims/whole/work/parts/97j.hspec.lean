/-! Hours: what an hour does to all. -/
section HS
variable {N : Int → Int} {n nb h t : Int} {g : Int → Int → Int}
theorem goS_col {j : Int} (hj : ¬ (j = 0 ∨ j = 4 ∨ j = 5 ∨ j = 6)) : ∀ (k : Nat) (r : Int → Int) (o : Int), (goS N t k r o).1 j = r j := by
  intro k
  induction k with
  | zero => intro r o; rfl
  | succ k ih =>
    intro r o
    rw [goS]
    by_cases z : r 4 = -3 ∨ nxtS N (r 4) (r 0) = -3
    · rw [cif_t z]
    · rw [cif_f z, ih]
      unfold arrS
      by_cases y : seeS N (nxtS N (r 4) (r 0)) t = 0
      · rw [cif_f (fun q => q y)]
        by_cases w : nxtS N (r 4) (r 0) = r 4
        · rw [cif_t w, up_n (by omega), up_n (by omega), up_n (by omega)]
        · rw [cif_f w, up_n (by omega)]
      · rw [cif_t y, up_n (by omega), up_n (by omega), up_n (by omega)]
theorem goS_ok : ∀ (k : Nat) (r : Int → Int) (o : Int), rOk r → rOk (goS N t k r o).1 ∧ ((goS N t k r o).1 4 = -3 ∨ (goS N t k r o).1 4 = r 4) ∧ ((goS N t k r o).2 = o ∨ (goS N t k r o).2 = 1) := by
  intro k
  induction k with
  | zero => intro r o h; exact ⟨h, Or.inr rfl, Or.inl rfl⟩
  | succ k ih =>
    intro r o h
    rw [goS]
    by_cases z : r 4 = -3 ∨ nxtS N (r 4) (r 0) = -3
    · rw [cif_t z]; exact ⟨h, Or.inr rfl, Or.inl rfl⟩
    · rw [cif_f z]
      have xb := (nxtW_b (w := wayS N (r 4)) h.1.1 h.1.2).resolve_left (fun y => z (Or.inr y))
      have ao := arrS_ok (N := N) (t := t) (c := nxtS N (r 4) (r 0)) xb.1 xb.2 h
      obtain ⟨q1, q2, q3⟩ := ih (arrS N t (nxtS N (r 4) (r 0)) r) 1 ao.1
      refine ⟨q1, ?_, Or.inr (q3.elim id id)⟩
      rcases q2 with y | y
      · exact Or.inl y
      · rcases ao.2.2 with w | w
        · exact Or.inl (by rw [y]; exact w)
        · exact Or.inr (by rw [y]; exact w)
theorem goS_1 : ∀ (k : Nat) (r : Int → Int), (goS N t k r 1).2 = 1 := by
  intro k
  induction k with
  | zero => intro r; rfl
  | succ k ih =>
    intro r
    rw [goS]
    by_cases z : r 4 = -3 ∨ nxtS N (r 4) (r 0) = -3
    · rw [cif_t z]
    · rw [cif_f z]; exact ih _
/-- one who didn't go doesn't go at all -/
theorem goS_no {k : Nat} {r : Int → Int} (hk : 1 ≤ k) (h : (goS N t k r 0).2 = 0) : r 4 = -3 ∨ nxtS N (r 4) (r 0) = -3 := by
  obtain ⟨k', rfl⟩ : ∃ k', k = k' + 1 := ⟨k - 1, by omega⟩
  rw [goS] at h
  by_cases z : r 4 = -3 ∨ nxtS N (r 4) (r 0) = -3
  · exact z
  · rw [cif_f z, goS_1] at h
    exact absurd h (by decide)
theorem goS_id {k : Nat} {r : Int → Int} {o : Int} (h : r 4 = -3 ∨ nxtS N (r 4) (r 0) = -3) : goS N t k r o = (r, o) := by
  cases k with
  | zero => rfl
  | succ k => rw [goS, cif_t h]
noncomputable def moveS (N : Int → Int) (t n : Int) (g : Int → Int → Int) : Int → Int → Int := fun p => cif (0 ≤ p ∧ p < n) (goS N t (g p 1).toNat (g p) 0).1 (g p)
def hdS (g : Int → Int → Int) : Int → Int → Int := fun q b => g q (10 + b)
def ceS (g : Int → Int → Int) : Int → Int := fun q => g q 0
noncomputable def tellS (n nb h : Int) (g : Int → Int → Int) : Int → Int → Int := fun p j => cif ((0 ≤ p ∧ p < n) ∧ (10 ≤ j ∧ j < 10 + nb) ∧ g p j = -3 ∧ ∃ i, (0 ≤ i ∧ i < n) ∧ tld (hdS g) (ceS g) h i p (j - 10)) h (g p j)
noncomputable def hrS (N : Int → Int) (n nb h : Int) (g : Int → Int → Int) : Int → Int → Int := tellS n nb h (moveS N (h % 24) n g)
noncomputable def gN (N : Int → Int) (n nb : Int) : Nat → Int → (Int → Int → Int) → Int → Int → Int
  | 0, _, g => g
  | k + 1, h, g => gN N n nb k (h + 1) (hrS N n nb (h + 1) g)
def noGo (N : Int → Int) (t n : Int) (g : Int → Int → Int) : Prop := ∀ p, 0 ≤ p → p < n → (goS N t (g p 1).toNat (g p) 0).2 = 0
/-- what is asked of all rows -/
def gOk (n nb h : Int) (g : Int → Int → Int) : Prop := (∀ p, 0 ≤ p → p < n → rOk (g p)) ∧ (∀ p b, 0 ≤ p → p < n → 0 ≤ b → b < nb → g p (10 + b) = -3 ∨ (0 ≤ g p (10 + b) ∧ g p (10 + b) ≤ h))
theorem moveS_ok (ho : gOk n nb h g) : gOk n nb h (moveS N t n g) := by
  refine ⟨fun p p0 p1 => ?_, fun p b p0 p1 b0 b1 => ?_⟩
  · unfold moveS
    rw [cif_t ⟨p0, p1⟩]
    exact (goS_ok _ _ _ (ho.1 p p0 p1)).1
  · unfold moveS
    rw [cif_t ⟨p0, p1⟩, goS_col (by omega)]
    exact ho.2 p b p0 p1 b0 b1
theorem tellS_c {p j : Int} (hj : ¬ (10 ≤ j ∧ j < 10 + nb)) : tellS n nb h g p j = g p j := cif_f (fun z => hj z.2.1)
theorem tellS_ok {h' : Int} (h0 : 0 ≤ h') (hh : h ≤ h') (ho : gOk n nb h g) : gOk n nb h' (tellS n nb h' g) := by
  refine ⟨fun p p0 p1 => ?_, fun p b p0 p1 b0 b1 => ?_⟩
  · have := ho.1 p p0 p1
    unfold rOk at this ⊢
    rw [tellS_c (by omega), tellS_c (by omega), tellS_c (by omega)]
    exact this
  · unfold tellS
    by_cases z : (0 ≤ p ∧ p < n) ∧ (10 ≤ 10 + b ∧ 10 + b < 10 + nb) ∧ g p (10 + b) = -3 ∧ ∃ i, (0 ≤ i ∧ i < n) ∧ tld (hdS g) (ceS g) h' i p (10 + b - 10)
    · rw [cif_t z]; exact Or.inr ⟨h0, by omega⟩
    · rw [cif_f z]
      have := ho.2 p b p0 p1 b0 b1
      omega
theorem hrS_ok (h0 : 0 ≤ h) (ho : gOk n nb h g) : gOk n nb (h + 1) (hrS N n nb (h + 1) g) := tellS_ok (by omega) (by omega) (moveS_ok ho)
theorem moveS_id (h : ∀ p, 0 ≤ p → p < n → g p 4 = -3 ∨ nxtS N (g p 4) (g p 0) = -3) : moveS N t n g = g := by
  funext p
  unfold moveS
  by_cases z : 0 ≤ p ∧ p < n
  · rw [cif_t z, goS_id (h p z.1 z.2)]
  · rw [cif_f z]
/-- who is together has told all -/
theorem tellS_id {h' : Int} (h0 : 0 ≤ h) (ho : gOk n nb h g) : tellS n nb h' (tellS n nb (h + 1) g) = tellS n nb (h + 1) g := by
  funext p j
  refine cif_f ?_
  rintro ⟨zp, zj, z3, i, zi, zt⟩
  obtain ⟨t1, t2, t3⟩ := zt
  unfold ceS at t1
  rw [tellS_c (by omega), tellS_c (by omega)] at t1
  unfold hdS at t2 t3
  rw [show 10 + (j - 10) = j by omega] at t2 t3
  have np : ¬ ((0 ≤ p ∧ p < n) ∧ (10 ≤ j ∧ j < 10 + nb) ∧ g p j = -3 ∧ ∃ i, (0 ≤ i ∧ i < n) ∧ tld (hdS g) (ceS g) (h + 1) i p (j - 10)) := by
    intro q
    unfold tellS at z3
    rw [cif_t q] at z3
    omega
  have gp : g p j = -3 := by
    unfold tellS at z3
    rw [cif_f np] at z3
    exact z3
  by_cases q : (0 ≤ i ∧ i < n) ∧ (10 ≤ j ∧ j < 10 + nb) ∧ g i j = -3 ∧ ∃ i', (0 ≤ i' ∧ i' < n) ∧ tld (hdS g) (ceS g) (h + 1) i' i (j - 10)
  · obtain ⟨_, _, _, i', y1, y2⟩ := q
    refine np ⟨zp, zj, gp, i', y1, ?_⟩
    refine ⟨?_, y2.2⟩
    have := y2.1
    unfold ceS at this ⊢
    rw [this, t1]
  · unfold tellS at t2
    rw [cif_f q] at t2
    have hb := ho.2 i (j - 10) zi.1 zi.2 (by omega) (by omega)
    rw [show 10 + (j - 10) = j by omega] at hb
    refine np ⟨zp, zj, gp, i, zi, ?_⟩
    refine ⟨t1, ?_, ?_⟩
    · unfold hdS
      rw [show 10 + (j - 10) = j by omega]
      exact t2
    · unfold hdS
      rw [show 10 + (j - 10) = j by omega]
      omega
theorem still_1 (h0 : 0 ≤ h) (ho : gOk n nb h g) (hg : noGo N ((h + 1) % 24) n g) : ∀ h', hrS N n nb h' (hrS N n nb (h + 1) g) = hrS N n nb (h + 1) g := by
  intro h'
  have c : ∀ p, 0 ≤ p → p < n → g p 4 = -3 ∨ nxtS N (g p 4) (g p 0) = -3 := fun p p0 p1 => by
    have := (ho.1 p p0 p1).2.1
    exact goS_no (by omega) (hg p p0 p1)
  have e1 : hrS N n nb (h + 1) g = tellS n nb (h + 1) g := by
    unfold hrS
    rw [moveS_id c]
  rw [e1]
  unfold hrS
  rw [moveS_id (g := tellS n nb (h + 1) g) (fun p p0 p1 => by rw [tellS_c (by omega), tellS_c (by omega)]; exact c p p0 p1)]
  exact tellS_id h0 ho
theorem gN_still {g : Int → Int → Int} (hs : ∀ h', hrS N n nb h' g = g) : ∀ (k : Nat) (h : Int), gN N n nb k h g = g := by
  intro k
  induction k with
  | zero => intro h; rfl
  | succ k ih => intro h; rw [gN, hs]; exact ih _
theorem gN_ok : ∀ (k : Nat) (h : Int) (g : Int → Int → Int), 0 ≤ h → gOk n nb h g → gOk n nb (h + k) (gN N n nb k h g) := by
  intro k
  induction k with
  | zero => intro h g h0 ho; rw [show h + ((0 : Nat) : Int) = h by omega]; exact ho
  | succ k ih =>
    intro h g h0 ho
    have := ih (h + 1) (hrS N n nb (h + 1) g) (by omega) (hrS_ok h0 ho)
    rw [show h + 1 + (k : Int) = h + ((k + 1 : Nat) : Int) by omega] at this
    exact this
theorem hrS_col {p j : Int} (hj : ¬ (j = 0 ∨ j = 4 ∨ j = 5 ∨ j = 6)) (hb : ¬ (10 ≤ j ∧ j < 10 + nb)) : hrS N n nb h g p j = g p j := by
  unfold hrS
  rw [tellS_c hb]
  unfold moveS
  by_cases z : 0 ≤ p ∧ p < n
  · rw [cif_t z, goS_col hj]
  · rw [cif_f z]
theorem gN_col {p j : Int} (hj : ¬ (j = 0 ∨ j = 4 ∨ j = 5 ∨ j = 6)) (hb : ¬ (10 ≤ j ∧ j < 10 + nb)) : ∀ (k : Nat) (h : Int) (g : Int → Int → Int), gN N n nb k h g p j = g p j := by
  intro k
  induction k with
  | zero => intro h g; rfl
  | succ k ih => intro h g; rw [gN, ih, hrS_col hj hb]
/-- the state of an hour's loop along persons -/
noncomputable def mixS (N : Int → Int) (t n : Int) (q : Int) (g : Int → Int → Int) : Int → Int → Int := fun p => cif (p < q) (moveS N t n g p) (g p)
end HS
