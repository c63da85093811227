/-! The start: zG and zG2. -/
theorem zOF_inj {o n d : String} {v w : Value} {t : Nat} {A : Nat → Prop} {U : State} {H : Heap} (h1 : va_OF o n d v t A U H) (h2 : va_OF o n d w t A U H) : v = w := by
  obtain ⟨cf, k, i, f, cell, a1, a2, a3, a4, a5, a6⟩ := h1
  obtain ⟨cf', k', i', f', cell', b1, b2, b3, b4, b5, b6⟩ := h2
  rw [a1] at b1
  cases b1
  rw [a3] at b3
  cases b3
  rw [a5] at b5
  exact Option.some.inj b5
section SS
variable {args : Array Value} {s : State} {A : Nat → Prop}
theorem zs_enum (h : zGv.before args s = true) (hA : ∀ a : Nat, a < s.heap.size → ¬ A a) : ∃ adE : Nat → Nat, (∀ i, i < 32 → (zse i).eval args s none [] s = some (.ref (adE i)) ∧ va_O "PeaceRing$Word" (adE i) A s s.heap) ∧ ∀ i j, i < 32 → j < 32 → adE i = adE j → i = j := by
  have h0 : ∀ i : Nat, ∃ a : Nat, i < 32 → (zse i).eval args s none [] s = some (.ref a) ∧ va_O "PeaceRing$Word" a A s s.heap := by
    intro i
    by_cases hi : i < 32
    · obtain ⟨a, c, cA, kA, q1, q2, q3, q4, q5, q6, -⟩ := Cond.exactly_spec (args := args) (first := s) (o := none) (s := s) (idx := []) (t := zse i) (cls := "PeaceRing$Word") (zh_ex h i hi)
      exact ⟨a, fun _ => ⟨q1, va_Oof (zh_ex h i hi) q1 hA⟩⟩
    · exact ⟨0, fun h => absurd h hi⟩
  obtain ⟨ad, had⟩ := Classical.axiomOfChoice h0
  refine ⟨ad, had, fun i j hi hj e => ?_⟩
  have f1 : va_OF "java/lang/Enum" "ordinal" "I" (.int (Int32.ofNat i)) (ad i) A s s.heap := vk_OFof (had i hi).1 (va_eqt (zh_od h i hi)) hA
  have f2 : va_OF "java/lang/Enum" "ordinal" "I" (.int (Int32.ofNat j)) (ad j) A s s.heap := vk_OFof (had j hj).1 (va_eqt (zh_od h j hj)) hA
  rw [e] at f1
  have := zOF_inj f1 f2
  have h3 : Int32.ofNat i = Int32.ofNat j := Value.int.inj this
  exact (nI_eq (by omega) (by omega)).mp h3
theorem zs_str (h : zGv.before args s = true) (hA : ∀ a : Nat, a < s.heap.size → ¬ A a) : ∃ adK adV : Nat → Nat, ∀ i, i < 56 → (zss i).eval args s none [] s = some (.ref (adK i)) ∧ va_O "java/lang/String" (adK i) A s s.heap ∧ va_OF "java/lang/String" "coder" "B" (.int 0) (adK i) A s s.heap ∧ va_OF "java/lang/String" "value" "[B" (.ref (adV i)) (adK i) A s s.heap ∧ va_T .byte (adV i) (zbyl.getD i []).length (fun j => .int ((zbyl.getD i []).getD j 0)) A s s.heap := by
  have hN : ∀ i : Nat, i < 56 → (zbyl.getD i []).length < 2 ^ 31 := by decide +kernel
  have h0 : ∀ i : Nat, ∃ q : Nat × Nat, i < 56 → (zss i).eval args s none [] s = some (.ref q.1) ∧ va_O "java/lang/String" q.1 A s s.heap ∧ va_OF "java/lang/String" "coder" "B" (.int 0) q.1 A s s.heap ∧ va_OF "java/lang/String" "value" "[B" (.ref q.2) q.1 A s s.heap ∧ va_T .byte q.2 (zbyl.getD i []).length (fun j => .int ((zbyl.getD i []).getD j 0)) A s s.heap := by
    intro i
    by_cases hi : i < 56
    · obtain ⟨a, c, cA, kA, q1, q2, q3, q4, q5, q6, -⟩ := Cond.exactly_spec (args := args) (first := s) (o := none) (s := s) (idx := []) (t := zss i) (cls := "java/lang/String") (zh_sx h i hi)
      obtain ⟨t, ht, hT⟩ := va_Tof (f := fun j => .int ((zbyl.getD i []).getD j 0)) (A := A) (hN i hi) (zh_sa h i hi) (va_eqt (zh_sl h i hi)) (fun j hj => va_eqt (zh_se h i hi j hj)) hA
      exact ⟨(a, t), fun _ => ⟨q1, va_Oof (zh_sx h i hi) q1 hA, vk_OFof q1 (va_eqt (zh_sc h i hi)) hA, vk_OFof q1 ht hA, hT⟩⟩
    · exact ⟨(0, 0), fun h => absurd h hi⟩
  obtain ⟨ad, had⟩ := Classical.axiomOfChoice h0
  exact ⟨fun i => (ad i).1, fun i => (ad i).2, fun i hi => had i hi⟩
theorem zs_above (h : zGv.before args s = true) (hA : ∀ a : Nat, a < s.heap.size → ¬ A a) : ∃ t : Nat, (Term.static "PeaceRing$Host" "ABOVE" "[I").eval args s none [] s = some (.ref t) ∧ va_T .int t 7 (fun j => .int (([-1, 0, 1, 2, 0, 0, 5] : List Int32).getD j 0)) A s s.heap :=
  va_Tof (by decide) (zg_142 h) (va_eqt (zg_143 h)) (fun j hj => va_eqt (zh_ae h j hj)) hA
end SS
