/-! Deals: the call. -/
section DL
variable {e : List Int32 × Value} {d : Nat} {m : zMm} {k c l n : Int}
theorem bgC_k {b : Int} {k' : Nat} (h1 : ¬ k' = 234) (h2 : ¬ k' = 245) : bgC m b k' = m k' := funext fun i => bgC_o (fun z => h1 z.1) h2
theorem bgM_k {b : Int} {k' : Nat} (h1 : ¬ k' = 246) (h2 : ¬ k' = 267) : bgM m b k' = m k' := funext fun i => bgM_o (fun z => h1 z.1) h2
theorem fC_k {T : List Int} {k' : Nat} (h1 : ¬ k' = 234) (h2 : ¬ k' = 245) : ∀ {m : zMm}, T.foldl bgC m k' = m k' := by
  induction T with
  | nil => intro m; rfl
  | cons a T ih => intro m; rw [List.foldl_cons, ih, bgC_k h1 h2]
theorem fM_k {T : List Int} {k' : Nat} (h1 : ¬ k' = 246) (h2 : ¬ k' = 267) : ∀ {m : zMm}, T.foldl bgM m k' = m k' := by
  induction T with
  | nil => intro m; rfl
  | cons a T ih => intro m; rw [List.foldl_cons, ih, bgM_k h1 h2]
theorem fM_i {T : List Int} {i : Int} (h : ¬ i = 35) : ∀ {m : zMm}, T.foldl bgM m 246 i = m 246 i := by
  induction T with
  | nil => intro m; rfl
  | cons a T ih => intro m; rw [List.foldl_cons, ih, bgM_o (fun z => h z.2) (by decide)]
/-- the same trace -/
def sTr (m m' : zMm) : Prop := (0 ≤ m' 246 35 ∧ m' 246 35 ≤ 30) ∧ m 234 8 = m' 246 35 ∧ ∀ i, 0 ≤ i → i < m' 246 35 → m 245 i = m' 267 i
theorem sTr.b {m m' : zMm} {b : Int} (h : sTr m m') : sTr (bgC m b) (bgM m' b) := by
  obtain ⟨h0, h1, h2⟩ := h
  unfold sTr bgC bgM
  rw [h1]
  by_cases z : 30 ≤ m' 246 35
  · rw [if_pos z, if_pos z]; exact ⟨h0, h1, h2⟩
  · rw [if_neg z, if_neg z, um_s, um_s, um_r (show ¬ 245 = 234 by decide), um_r (show ¬ 267 = 246 by decide)]
    refine ⟨by omega, rfl, fun i i0 i1 => ?_⟩
    by_cases hi : i = m' 246 35
    · rw [hi, um_s, um_s]
    · rw [um_i hi, um_i hi]; exact h2 i i0 (by omega)
theorem sTr.f {T : List Int} : ∀ {m m' : zMm}, sTr m m' → sTr (T.foldl bgC m) (T.foldl bgM m') := by
  induction T with
  | nil => intro m m' h; exact h
  | cons a T ih => intro m m' h; exact ih h.b
theorem bgC_r {b : Int} (hr : Rng m) (h0 : 0 ≤ m 234 8) (hb : wr b = b) : Rng (bgC m b) := by
  unfold bgC
  split
  · exact hr
  · exact (hr.um hb).um (wr_of (by omega) (by omega))
theorem bgM_r {b : Int} (hr : Rng m) (h0 : 0 ≤ m 246 35) (hb : wr b = b) : Rng (bgM m b) := by
  unfold bgM
  split
  · exact hr
  · exact (hr.um hb).um (wr_of (by omega) (by omega))
theorem fC_r {T : List Int} (hT : ∀ b, b ∈ T → wr b = b) : ∀ {m : zMm}, Rng m → hdC k c l n m → Rng (T.foldl bgC m) := by
  induction T with
  | nil => intro m h _; exact h
  | cons a T ih =>
    intro m h h1
    exact ih (fun b hb => hT b (List.mem_cons_of_mem _ hb)) (bgC_r h h1.1.1 (hT a List.mem_cons_self)) h1.b
theorem fM_r {T : List Int} (hT : ∀ b, b ∈ T → wr b = b) : ∀ {m : zMm}, Rng m → hdM k c l n m → Rng (T.foldl bgM m) := by
  induction T with
  | nil => intro m h _; exact h
  | cons a T ih =>
    intro m h h1
    exact ih (fun b hb => hT b (List.mem_cons_of_mem _ hb)) (bgM_r h h1.1.1 (hT a List.mem_cons_self)) h1.b
def tD (w k : Int) : List Int := if w = 0 then tG k else if w = 1 then tE k else if w = 2 then tC k else tP k
theorem aP {A B : List Int} (ha : ∀ b, b ∈ A → 0 ≤ b ∧ b < 100) (hb : ∀ b, b ∈ B → 0 ≤ b ∧ b < 100) : ∀ b, b ∈ A ++ B → 0 ≤ b ∧ b < 100 := fun b h => (List.mem_append.mp h).elim (ha b) (hb b)
theorem tG_b : ∀ b, b ∈ tG k → 0 ≤ b ∧ b < 100 := by
  unfold tG
  split
  · decide
  · split <;> decide
theorem tE_b : ∀ b, b ∈ tE k → 0 ≤ b ∧ b < 100 := by
  unfold tE
  split
  · exact aP (by decide) tG_b
  · split
    · exact aP (by decide) tG_b
    · split
      · exact aP (aP (by decide) tG_b) tG_b
      · split
        · exact aP (by decide) tG_b
        · exact aP (by decide) tG_b
theorem tC_b : ∀ b, b ∈ tC k → 0 ≤ b ∧ b < 100 := by
  unfold tC
  split
  · exact aP (aP (by decide) tE_b) tE_b
  · split
    · exact aP (by decide) tE_b
    · split
      · exact aP (by decide) tE_b
      · exact aP (by decide) tE_b
theorem tP_b : ∀ b, b ∈ tP k → 0 ≤ b ∧ b < 100 := by
  unfold tP
  split
  · decide
  · split <;> decide
theorem tD_wr (w k : Int) : ∀ b, b ∈ tD w k → wr b = b := by
  have hb : ∀ b, b ∈ tD w k → 0 ≤ b ∧ b < 100 := by
    unfold tD
    split
    · exact tG_b
    · split
      · exact tE_b
      · split
        · exact tC_b
        · exact tP_b
  intro b h
  have := hb b h
  exact wr_of (by omega) (by omega)
def vD (w c l n k x : Int) : Int := if w = 0 then vG c l k x else if w = 1 then vE c l n k x else if w = 2 then vC c l n k x else vP c n k x
/-- the class's own deal -/
theorem H_deal {w x : Int} (wc : wr c = c) (c0 : 0 ≤ c) (c1 : c < 100) (hk : 0 ≤ k ∧ k ≤ 6) (hw : 0 ≤ w ∧ w ≤ 3) (h : hdC k c l n m) (h13 : m 234 13 = 0) : ∃ m', (if w = 0 then Z e (d + 13) 13 0 [.ref 234, .int (iI k), .int (iI x)] [] m else if w = 1 then Z e (d + 13) 14 0 [.ref 234, .int (iI k), .int (iI x)] [] m else if w = 2 then Z e (d + 13) 15 0 [.ref 234, .int (iI k), .int (iI x)] [] m else Z e (d + 13) 16 0 [.ref 234, .int (iI k), .int (iI x)] [] m) = ri (vD w c l n k x) m' ∧ m' = um ((tD w k).foldl bgC m) 234 13 (if w = 3 ∧ c = 11 then 1 else 0) := by
  have f13 : ∀ (T : List Int) (m : zMm), T.foldl bgC m 234 13 = m 234 13 := by
    intro T
    induction T with
    | nil => intro m; rfl
    | cons a T ih => intro m; rw [List.foldl_cons, ih, bgC_o (by decide) (by decide)]
  have idm : ∀ T : List Int, um (T.foldl bgC m) 234 13 0 = T.foldl bgC m := fun T => by
    have : T.foldl bgC m 234 13 = 0 := by rw [f13]; exact h13
    rw [← this, um_id]
  have hx : w = 0 ∨ w = 1 ∨ w = 2 ∨ w = 3 := by omega
  rcases hx with z | z | z | z <;> subst z
  · refine ⟨_, ?_, rfl⟩
    rw [if_pos rfl, if_neg (fun y => absurd y.1 (by decide)), show tD 0 k = tG k from rfl, idm]
    exact H_guards (d := d + 9) hk h
  · refine ⟨_, ?_, rfl⟩
    rw [if_neg (by decide), if_pos rfl, if_neg (fun y => absurd y.1 (by decide)), show tD 1 k = tE k from rfl, idm]
    exact H_ends (d := d + 4) hk h
  · refine ⟨_, ?_, rfl⟩
    rw [if_neg (by decide), if_neg (by decide), if_pos rfl, if_neg (fun y => absurd y.1 (by decide)), show tD 2 k = tC k from rfl, idm]
    exact H_costs (d := d + 1) hk h
  · refine ⟨_, ?_, rfl⟩
    rw [if_neg (by decide), if_neg (by decide), if_neg (by decide), show tD 3 k = tP k from rfl]
    have e1 : (if (3 : Int) = 3 ∧ c = 11 then (1 : Int) else 0) = if c = 11 then 1 else 0 := by
      by_cases z : c = 11
      · rw [if_pos ⟨rfl, z⟩, if_pos z]
      · rw [if_neg (fun y => z y.2), if_neg z]
    rw [e1]
    exact H_parts (d := d + 9) wc c0 c1 hk h
theorem D_deal {w x : Int} (n0 : 0 ≤ n) (n1 : n < 16) (wc : wr c = c) (c0 : 0 ≤ c) (c1 : c < 100) (hk : 0 ≤ k ∧ k ≤ 6) (hw : 0 ≤ w ∧ w ≤ 3) (h : hdM k c l n m) (h37 : m 246 37 = 0) : Z e (d + 28) 313 0 [.ref 246, .int (iI w), .int (iI x)] [] m = ri (vD w c l n k x) (um ((tD w k).foldl bgM m) 246 37 (if w = 3 ∧ c = 11 then 1 else 0)) := by
  have idm : ∀ T : List Int, um (T.foldl bgM m) 246 37 0 = T.foldl bgM m := fun T => by
    have : T.foldl bgM m 246 37 = 0 := by rw [bgM_f37]; exact h37
    rw [← this, um_id]
  have hx : w = 0 ∨ w = 1 ∨ w = 2 ∨ w = 3 := by omega
  rcases hx with z | z | z | z <;> subst z
  · rw [if_neg (fun y => absurd y.1 (by decide)), show tD 0 k = tG k from rfl, idm]
    exact D_guards (d := d + 18) n0 n1 hk h
  · rw [if_neg (fun y => absurd y.1 (by decide)), show tD 1 k = tE k from rfl, idm]
    exact D_ends (d := d + 8) n0 n1 hk h
  · rw [if_neg (fun y => absurd y.1 (by decide)), show tD 2 k = tC k from rfl, idm]
    exact D_costs (d := d) n0 n1 hk h
  · have e1 : (if (3 : Int) = 3 ∧ c = 11 then (1 : Int) else 0) = if c = 11 then 1 else 0 := by
      by_cases z : c = 11
      · rw [if_pos ⟨rfl, z⟩, if_pos z]
      · rw [if_neg (fun y => z y.2), if_neg z]
    rw [e1, show tD 3 k = tP k from rfl]
    exact D_parts (d := d + 18) n0 n1 wc c0 c1 h37 hk h
end DL
