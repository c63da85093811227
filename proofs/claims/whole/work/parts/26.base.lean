/-! Words for symbolic runs. -/
theorem itp {α : Type} {c : Prop} [Decidable c] {a b : α} (h : c) : (if c then a else b) = a := if_pos h
theorem itn {α : Type} {c : Prop} [Decidable c] {a b : α} (h : ¬ c) : (if c then a else b) = b := if_neg h
theorem cat_i {x : Int32} : (Value.int x).category = 1 := rfl
theorem cat_r {x : Nat} : (Value.ref x).category = 1 := rfl
theorem cat_u {x : Nat} : (Value.retAddr x).category = 1 := rfl
theorem nI_n0 {n : Nat} (h : n < 2 ^ 31) : (nI n < 0) = False := eq_false (nI_pos h)
theorem nI_p0 {n : Nat} (h : n < 2 ^ 31) : (0 ≤ nI n) = True := eq_true (nI_pos' h)
theorem nb0 : (narrow .boolean (.int (nI 0)) = .int (nI 0)) = True := eq_true rfl
theorem nb1 : (narrow .boolean (.int (nI 1)) = .int (nI 1)) = True := eq_true rfl
theorem zix_nI {j n : Nat} (h : j < n) (hn : n < 2 ^ 31) : zix (nI j) n = some j := by
  unfold zix
  have h1 : (nI j).toNatClampNeg = j := nI_clamp (by omega)
  rw [if_neg, h1]
  rintro (h2 | h2)
  · exact nI_pos (by omega) h2
  · rw [h1] at h2; omega
section BA
variable {E : zS} {d mi pc : Nat} {L rest : List Value} {F F' : Nat → Nat → Int32} {A A' : Nat → List Int32}
theorem zth_q {v : Option Value} {h h2 : zH} (hl : h2.length = h.length) : zth E d mi pc L rest h (v, h2) = rv E d mi pc L (v.toList ++ rest) h2 := if_pos (Or.inl hl)
theorem hp_ll : (hp F' A').length = (hp F A).length := Eq.trans (b := 268) hp_len (Eq.symm hp_len)
theorem zth_i {v : Int32} : zth E d mi pc L rest (hp F A) (some (.int v), hp F' A') = rv E d mi pc L (.int v :: rest) (hp F' A') := zth_q hp_ll
theorem zth_n : zth E d mi pc L rest (hp F A) (none, hp F' A') = rv E d mi pc L rest (hp F' A') := zth_q hp_ll
theorem zth_r {k : Nat} : zth E d mi pc L rest (hp F A) (some (.ref k), hp F' A') = rv E d mi pc L (.ref k :: rest) (hp F' A') := zth_q hp_ll
/-- a loop: what doesn't change from turn to turn -/
theorem it_eq {α : Type} {f : Nat → α} {n : Nat} (h : ∀ i, i < n → f i = f (i + 1)) : f 0 = f n := by
  have : ∀ k, k ≤ n → f 0 = f k := by
    intro k
    induction k with
    | zero => intro _; rfl
    | succ k ih => intro hk; rw [ih (by omega), h k (by omega)]
  exact this n (Nat.le_refl n)
end BA
