/-! Along the lines in force. -/
section LF
variable {N N' : Int → Int} {o h : Int}
/-- what is asked of the numbers of versions -/
def vB (N : Int → Int) : Prop := 0 ≤ N 3 ∧ N 3 ≤ 12 ∧ ∀ v, 0 ≤ v → v < N 3 → 0 ≤ N (266 + 44 * v + 3) ∧ N (266 + 44 * v + 3) ≤ 10
theorem itr_hom {α β : Type} {φ : α → β} {f : Int → α → α} {g : Int → β → β} : ∀ (k : Nat) (j : Int) (x : α), (∀ i y, j ≤ i → i < j + k → φ (f i y) = g i (φ y)) → φ (itr f j k x) = itr g j k (φ x)
  | 0, _, _, _ => rfl
  | k + 1, j, x, hh => by
    rw [itr, itr, ← hh j x (by omega) (by omega)]
    exact itr_hom k (j + 1) _ (fun i y h1 h2 => hh i y (by omega) (by omega))
theorem itr_I {α : Type} {I : α → Prop} {f : Int → α → α} : ∀ (k : Nat) (j : Int) (x : α), I x → (∀ i y, j ≤ i → i < j + k → I y → I (f i y)) → I (itr f j k x)
  | 0, _, _, hx, _ => hx
  | k + 1, j, x, hx, hh => by
    rw [itr]
    exact itr_I k (j + 1) _ (hh j x (by omega) (by omega) hx) (fun i y h1 h2 => hh i y (by omega) (by omega))
theorem lnV_hom {α β : Type} {φ : α → β} {g : Int → Int → α → α} {g' : Int → Int → β → β} {v : Int} (hb : 0 ≤ v → N (266 + 44 * v + 3) ≤ 10) (hh : ∀ l y, 0 ≤ v → 0 ≤ l → l < 10 → l < N (266 + 44 * v + 3) → φ (g v l y) = g' v l (φ y)) (x : α) : φ (lnV N g v x) = lnV N g' v (φ x) := by
  unfold lnV
  by_cases hv : 0 ≤ v
  · rw [cif_t hv, cif_t hv]
    exact itr_hom _ _ _ (fun l y h1 h2 => hh l y hv h1 (by have := hb hv; omega) (by omega))
  · rw [cif_f hv, cif_f hv]
theorem vOf_lt (b3 : 0 ≤ N 3) {c : Int} (hv : 0 ≤ vOf N o c h) : vOf N o c h < N 3 := by
  rcases vOf_b (N := N) (o := o) (c := c) (h := h) b3 with q | q
  · omega
  · exact q.2.1
theorem lnF_hom {α β : Type} {φ : α → β} {g : Int → Int → α → α} {g' : Int → Int → β → β} (hB : vB N) (hh : ∀ v l y, 0 ≤ v → v < N 3 → 0 ≤ l → l < 10 → l < N (266 + 44 * v + 3) → φ (g v l y) = g' v l (φ y)) (x : α) : φ (lnF N o h g x) = lnF N o h g' (φ x) := by
  unfold lnF
  refine itr_hom _ _ _ (fun c y _ _ => lnV_hom (fun hv => (hB.2.2 _ hv (vOf_lt hB.1 hv)).2) (fun l y hv h1 h2 h3 => hh _ l y hv (vOf_lt hB.1 hv) h1 h2 h3) y)
theorem lnV_I {α : Type} {I : α → Prop} {g : Int → Int → α → α} {v : Int} (hb : 0 ≤ v → N (266 + 44 * v + 3) ≤ 10) (hh : ∀ l y, 0 ≤ v → 0 ≤ l → l < 10 → l < N (266 + 44 * v + 3) → I y → I (g v l y)) {x : α} (hx : I x) : I (lnV N g v x) := by
  unfold lnV
  by_cases hv : 0 ≤ v
  · rw [cif_t hv]
    exact itr_I _ _ _ hx (fun l y h1 h2 => hh l y hv h1 (by have := hb hv; omega) (by omega))
  · rw [cif_f hv]; exact hx
theorem lnF_I {α : Type} {I : α → Prop} {g : Int → Int → α → α} (hB : vB N) (hh : ∀ v l y, 0 ≤ v → v < N 3 → 0 ≤ l → l < 10 → l < N (266 + 44 * v + 3) → I y → I (g v l y)) {x : α} (hx : I x) : I (lnF N o h g x) := by
  unfold lnF
  refine itr_I _ _ _ hx (fun c y _ _ hy => lnV_I (fun hv => (hB.2.2 _ hv (vOf_lt hB.1 hv)).2) (fun l y hv h1 h2 h3 => hh _ l y hv (vOf_lt hB.1 hv) h1 h2 h3) hy)
/-- the lines in force, in their order -/
noncomputable def lnL (N : Int → Int) (o h : Int) : List Int := lnF N o h (fun v l y => y ++ [100 * v + l]) []
theorem lnF_L {α : Type} {g : Int → Int → α → α} (hB : vB N) (x : α) : lnF N o h g x = (lnL N o h).foldl (fun y c => g (c / 100) (c % 100) y) x := by
  unfold lnL
  rw [lnF_hom (φ := fun A : List Int => A.foldl (fun y c => g (c / 100) (c % 100) y) x) (g' := g) hB]
  · rfl
  · intro v l y h1 h2 h3 h4 h5
    rw [List.foldl_append, List.foldl_cons, List.foldl_nil, show (100 * v + l) / 100 = v by omega, show (100 * v + l) % 100 = l by omega]
/-- each is a line -/
def isLn (N : Int → Int) (c : Int) : Prop := 0 ≤ c ∧ c / 100 < N 3 ∧ c % 100 < 10 ∧ c % 100 < N (266 + 44 * (c / 100) + 3)
theorem lnL_all (hB : vB N) : ∀ c, c ∈ lnL N o h → isLn N c := by
  unfold lnL
  refine lnF_I (I := fun A : List Int => ∀ c, c ∈ A → isLn N c) hB (fun v l y h1 h2 h3 h4 h5 hy c hc => ?_) (fun c hc => absurd hc List.not_mem_nil)
  rcases List.mem_append.mp hc with hc | hc
  · exact hy c hc
  · rw [List.mem_singleton.mp hc]
    unfold isLn
    rw [show (100 * v + l) / 100 = v by omega, show (100 * v + l) % 100 = l by omega]
    omega
/-- the last that is so, from the end -/
theorem foldl_last {A : List Int} {P : Int → Prop} : ∀ {x : Int}, ((∀ c, c ∈ A → ¬ P c) → A.foldl (fun y c => cif (P c) c y) x = x) := by
  induction A with
  | nil => intro x _; rfl
  | cons a A ih =>
    intro x hn
    rw [List.foldl_cons, cif_f (hn a List.mem_cons_self)]
    exact ih (fun c hc => hn c (List.mem_cons_of_mem _ hc))
theorem lnV_cg {α : Type} {g g' : Int → Int → α → α} {v : Int} (hn : 0 ≤ v → N' (266 + 44 * v + 3) = N (266 + 44 * v + 3)) (hb : 0 ≤ v → N (266 + 44 * v + 3) ≤ 10) (hh : ∀ l y, 0 ≤ v → 0 ≤ l → l < 10 → g' v l y = g v l y) (x : α) : lnV N' g' v x = lnV N g v x := by
  unfold lnV
  by_cases hv : 0 ≤ v
  · rw [cif_t hv, cif_t hv, hn hv]
    exact itr_cg _ _ _ (fun l y h1 h2 => hh l y hv h1 (by have := hb hv; omega))
  · rw [cif_f hv, cif_f hv]
theorem vOf_cg {c : Int} (b3 : N 3 ≤ 12) (h3 : N' 3 = N 3) (hN : ∀ i, 266 ≤ i → i < 794 → N' i = N i) : vOf N' o c h = vOf N o c h := by
  unfold vOf
  rw [h3]
  refine itr_cg _ _ _ (fun v y h1 h2 => ?_)
  unfold inFo inF
  rw [hN _ (by omega) (by omega), hN (266 + 44 * v + 1) (by omega) (by omega), hN (266 + 44 * v + 2) (by omega) (by omega)]
theorem lnF_cg {α : Type} {g g' : Int → Int → α → α} (hB : vB N) (h3 : N' 3 = N 3) (hN : ∀ i, 266 ≤ i → i < 794 → N' i = N i) (hh : ∀ v l y, 0 ≤ v → v < N 3 → 0 ≤ l → l < 10 → g' v l y = g v l y) (x : α) : lnF N' o h g' x = lnF N o h g x := by
  unfold lnF
  refine itr_cg _ _ _ (fun c y _ _ => ?_)
  rw [vOf_cg hB.2.1 h3 hN]
  have hl : 0 ≤ vOf N o c h → vOf N o c h < N 3 := fun hv => vOf_lt hB.1 hv
  exact lnV_cg (fun hv => hN _ (by omega) (by have := hl hv; have := hB.2.1; omega)) (fun hv => (hB.2.2 _ hv (hl hv)).2) (fun l y hv h1 h2 => hh _ l y hv (hl hv) h1 h2) y
theorem vB_cg (h3 : N' 3 = N 3) (hN : ∀ i, 266 ≤ i → i < 794 → N' i = N i) (hB : vB N) : vB N' := by
  refine ⟨by rw [h3]; exact hB.1, by rw [h3]; exact hB.2.1, fun v h0 h1 => ?_⟩
  rw [h3] at h1
  rw [hN _ (by omega) (by have := hB.2.1; omega)]
  exact hB.2.2 v h0 h1
theorem mile_cg (hB : vB N) (h3 : N' 3 = N 3) (hN : ∀ i, 266 ≤ i → i < 794 → N' i = N i) : mile N' o h = mile N o h := by
  refine lnF_cg hB h3 hN (fun v l y h1 h2 h4 h5 => ?_) 3
  unfold lk ln
  have := hB.2.1
  rw [hN _ (by omega) (by omega), hN (266 + 44 * v + (4 + 4 * l + 1)) (by omega) (by omega)]
theorem strt_cg (hB : vB N) (h3 : N' 3 = N 3) (hN : ∀ i, 266 ≤ i → i < 794 → N' i = N i) : strt N' o h = strt N o h := by
  refine lnF_cg hB h3 hN (fun v l y h1 h2 h4 h5 => ?_) 0
  unfold lk
  have := hB.2.1
  rw [hN _ (by omega) (by omega)]
theorem strt_01 (hB : vB N) : strt N o h = 0 ∨ strt N o h = 1 := by
  refine lnF_I (I := fun x : Int => x = 0 ∨ x = 1) hB (fun v l y _ _ _ _ _ hy => ?_) (Or.inl rfl)
  by_cases q : lk N v l = 1 ∨ lk N v l = 2
  · rw [cif_t q]; omega
  · rw [cif_f q]; exact hy
theorem mile_b (hB : vB N) (hl : ∀ v l, 0 ≤ v → v < N 3 → 0 ≤ l → l < N (266 + 44 * v + 3) → 0 ≤ ln N v l ∧ ln N v l ≤ 999) : 0 ≤ mile N o h ∧ mile N o h ≤ 999 := by
  refine lnF_I (I := fun x : Int => 0 ≤ x ∧ x ≤ 999) hB (fun v l y h1 h2 h3 h4 h5 hy => ?_) (by decide)
  by_cases q : lk N v l = 0
  · rw [cif_t q]; exact hl v l h1 h2 h3 h5
  · rw [cif_f q]; exact hy
theorem fort_b (hB : vB N) (hl : ∀ v l, 0 ≤ v → v < N 3 → 0 ≤ l → l < N (266 + 44 * v + 3) → 0 ≤ ln N v l ∧ ln N v l ≤ 999) : 0 ≤ fort N o h ∧ fort N o h ≤ 999 := by
  refine lnF_I (I := fun x : Int => 0 ≤ x ∧ x ≤ 999) hB (fun v l y h1 h2 h3 h4 h5 hy => ?_) (by decide)
  by_cases q : lk N v l = 3
  · rw [cif_t q]; exact hl v l h1 h2 h3 h5
  · rw [cif_f q]; exact hy
/-- one version alone -/
theorem lnF_one {α : Type} {g : Int → Int → α → α} {x : α} (hv : 0 ≤ o) (ho : o < N 3) (hc0 : 0 ≤ N (266 + 44 * o + 0)) (hc : N (266 + 44 * o + 0) ≤ 2) : lnF N o h g x = lnV N g o x := by
  have key : ∀ c, vOf N o c h = if N (266 + 44 * o + 0) = c then o else -1 := by
    intro c
    by_cases q : N (266 + 44 * o + 0) = c
    · rw [if_pos q]
      exact vOf_one hv ho ⟨q, Or.inl ⟨hv, rfl⟩⟩ (fun v' h0 h1 h2 h3 => by
        rcases h3.2 with z | z
        · exact h2 z.2
        · omega)
    · rw [if_neg q]
      exact vOf_none (by omega) (fun v h0 h1 h2 => by
        rcases h2.2 with z | z
        · rw [z.2] at h2; exact q h2.1
        · omega)
  have none : ∀ y : α, lnV N g (-1) y = y := fun y => cif_f (by decide)
  unfold lnF
  rw [show (3 : Nat) = 2 + 1 from rfl, itr, itr, itr, itr]
  rw [key, key, key]
  by_cases q0 : N (266 + 44 * o + 0) = 0
  · rw [if_pos q0, if_neg (by omega), if_neg (by omega), none, none]
  · by_cases q1 : N (266 + 44 * o + 0) = 1
    · rw [if_neg (by omega), if_pos (by omega), if_neg (by omega), none, none]
    · have q2 : N (266 + 44 * o + 0) = 0 + 1 + 1 := by omega
      rw [if_neg q0, if_neg (show ¬ N (266 + 44 * o + 0) = 0 + 1 from fun z => q1 z), if_pos q2, none, none]
end LF
