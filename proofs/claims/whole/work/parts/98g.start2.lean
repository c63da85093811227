section S2
variable {args : Array Value} {s : State} {A : Nat → Prop}
theorem zs_vals (h : zGv.before args s = true) (hA : ∀ a : Nat, a < s.heap.size → ¬ A a) {adE : Nat → Nat} (hE : ∀ i, i < 32 → (zse i).eval args s none [] s = some (.ref (adE i))) : ∃ (t : Nat) (cell : Cell), (Term.static "PeaceRing$Word" "$VALUES" "[LPeaceRing$Word;").eval args s none [] s = some (.ref t) ∧ s.heap[t]? = some cell ∧ cell.vm.isStatics = false ∧ cell.vm ≠ .unknown ∧ s.vm.findClass "[LPeaceRing$Word;" = some cell.cls ∧ cell.slots = ((List.range 32).map (fun i => Value.ref (adE i))).toArray := by
  obtain ⟨a, c, cA, kA, q1, q2, q3, q4, q5, q6, -⟩ := Cond.exactly_spec (args := args) (first := s) (o := none) (s := s) (idx := []) (t := .static "PeaceRing$Word" "$VALUES" "[LPeaceRing$Word;") (cls := "[LPeaceRing$Word;") (zg_5 h)
  obtain ⟨t, ht, cell, g1, g2, g3, g4, g5, g6, -⟩ := va_Tof (N := 32) (f := fun j => Value.ref (adE j)) (A := A) (by decide) (zg_6 h) (va_eqt (zg_7 h)) (fun j hj => va_eqv (zh_ve h j hj) (hE j hj)) hA
  have et : a = t := by
    have := q1.symm.trans ht
    cases this
    rfl
  subst et
  have ec : cA = cell := Option.some.inj (q3.symm.trans g1)
  subst ec
  have hat : s.arrayAt? a = some cA := by
    obtain ⟨t', cell', ht', hat', -⟩ := Term.length_spec (va_eqt (zg_7 h))
    have : t' = a := by
      have := ht'.symm.trans ht
      cases this
      rfl
    subst this
    obtain ⟨hcell, -, -, -⟩ := State.arrayAt?_spec hat'
    have : cell' = cA := Option.some.inj (hcell.symm.trans g1)
    rw [← this]
    exact hat'
  have hall := Cond.all_elim ht hat (by simpa [Cond.before, Cond.holds] using zg_8 h)
  have hsz : cA.slots.size = 32 := by
    rcases Nat.lt_or_ge 32 cA.slots.size with hlt | hle
    · have := hall 32 hlt
      exact absurd this (by simp [Cond.value, Term.eval]; try decide)
    · omega
  refine ⟨a, cA, ht, g1, q5, g3, by rw [q6]; exact q2, ?_⟩
  apply Array.ext
  · simp [hsz]
  · intro i h1 h2
    have hi : i < 32 := by omega
    have := g6 i hi
    rw [Array.getElem?_eq_getElem h1] at this
    have e1 : cA.slots[i] = Value.ref (adE i) := Option.some.inj this
    rw [e1]
    simp
/-- a number's address -/
def zad (adE adK adV : Nat → Nat) (v a f b : Nat) : Nat → Nat := fun k =>
  if k < 10000 then 0 else if k < 10100 then adE (k - 10000) else if k < 10200 then adK (k - 10100) else if k < 10300 then adV (k - 10200) else if k = 10300 then v else if k = 10301 then f else if k = 10302 then a else b
end S2
