/-! Deals: the class. -/
def bgC (m : zMm) (b : Int) : zMm := if 30 ≤ m 234 8 then m else um (um m 245 (m 234 8) b) 234 8 (m 234 8 + 1)
def hdC (k c l n : Int) (m : zMm) : Prop := (0 ≤ m 234 8 ∧ m 234 8 ≤ 30) ∧ m 234 9 = n ∧ m 234 10 = c ∧ m 234 11 = l ∧ m 234 12 = k
def tG (k : Int) : List Int := if k = 3 then [40, 20, 10] else if k = 1 ∨ k = 2 then [20, 10] else [10]
def vG (c l k x : Int) : Int := if k = 3 then 0 - jxor (x + c) l else if k = 1 ∨ k = 2 then jxor (x + c) l else x + c
def tE (k : Int) : List Int := if k = 6 then [71, 60, 11] ++ tG k else if k = 5 then [60, 11] ++ tG k else if k = 3 then [41, 30, 11] ++ tG k ++ tG k else if k = 2 then [30, 11] ++ tG k else [11] ++ tG k
def vE (c l n k x : Int) : Int := if k = 6 then jxor (vG c l k x * 2) 5 + n else if k = 5 then jxor (vG c l k x * 2) 5 else if k = 3 then vG c l k (x - 1) * 2 + vG c l k 1 else if k = 2 then vG c l k (x - 1) * 2 else vG c l k x * 2
def tC (k : Int) : List Int := if k = 6 then [70, 12] ++ tE k ++ tE k else if k = 4 then [50, 12] ++ tE k else if k = 1 ∨ k = 2 ∨ k = 3 then [21, 12] ++ tE k else [12] ++ tE k
def vC (c l n k x : Int) : Int := if k = 6 then vE c l n k x - n - vE c l n k 0 else if k = 4 then (vE c l n k x - n) * l else if k = 1 ∨ k = 2 ∨ k = 3 then vE c l n k x - n + 3 else vE c l n k x - n
def tP (k : Int) : List Int := if k = 5 ∨ k = 6 then [61, 13] else if k = 2 ∨ k = 3 then [31, 13] else [13]
def pB (c x : Int) : Int := if c = 11 then 0 else jdiv x (c - 11)
def vP (c n k x : Int) : Int := if k = 5 ∨ k = 6 then pB c (x + 2) else if k = 2 ∨ k = 3 then pB c x + n else pB c x
section DC
variable {e : List Int32 × Value} {d : Nat} {m : zMm} {k c l n : Int}
theorem bgC_o {b i : Int} {k' : Nat} (h1 : ¬ (k' = 234 ∧ i = 8)) (h2 : ¬ k' = 245) : bgC m b k' i = m k' i := by
  unfold bgC
  split
  · rfl
  · by_cases h : k' = 234
    · subst h
      rw [um_i (fun z => h1 ⟨rfl, z⟩), um_k (by decide)]
    · rw [um_k h, um_k h2]
theorem hdC.b {b : Int} (h : hdC k c l n m) : hdC k c l n (bgC m b) := by
  obtain ⟨h0, h1, h2, h3, h4⟩ := h
  refine ⟨?_, by rw [bgC_o (by omega) (by decide)]; exact h1, by rw [bgC_o (by omega) (by decide)]; exact h2, by rw [bgC_o (by omega) (by decide)]; exact h3, by rw [bgC_o (by omega) (by decide)]; exact h4⟩
  unfold bgC
  split
  · exact h0
  · rw [um_s]; omega
theorem hdC.f {T : List Int} : ∀ {m : zMm}, hdC k c l n m → hdC k c l n (T.foldl bgC m) := by
  induction T with
  | nil => intro m h; exact h
  | cons a T ih => intro m h; exact ih h.b
theorem begin_ok {b : Int} (h : hdC k c l n m) : Z e d 12 0 [.ref 234, .int (iI b)] [] m = rn (bgC m b) := by
  have h0 := h.1
  have w : wr (m 234 8) = m 234 8 := wr_of (by omega) (by omega)
  unfold bgC
  rw [b_12_0, w, um_k (by decide)]
  by_cases z : 30 ≤ m 234 8
  · rw [itp z, if_pos z]
  · rw [itn z, if_neg z, ck_t (by omega)]
theorem H_guards {x : Int} (hk : 0 ≤ k ∧ k ≤ 6) (h : hdC k c l n m) : Z e (d + 4) 13 0 [.ref 234, .int (iI k), .int (iI x)] [] m = ri (vG c l k x) ((tG k).foldl bgC m) := by
  have hb : ∀ (D : Nat) (μ : zMm) (b : Int), hdC k c l n μ → Z e D 12 0 [.ref 234, .int (iI b)] [] μ = rn (bgC μ b) := fun D μ b => begin_ok
  have rc : ∀ μ, hdC k c l n μ → μ 234 10 = c := fun μ z => z.2.2.1
  have rl : ∀ μ, hdC k c l n μ → μ 234 11 = l := fun μ z => z.2.2.2.1
  have hx : k = 0 ∨ k = 1 ∨ k = 2 ∨ k = 3 ∨ k = 4 ∨ k = 5 ∨ k = 6 := by omega
  rcases hx with z | z | z | z | z | z | z <;> subst z <;> simp (disch := first | omega | (repeat' (first | assumption | apply hdC.b | apply hdC.f)) | exact cat_i | exact cat_u | exact cat_r | exact rfl) only [b_13_0, b_13_11, b_13_18, b_13_36, b_13_42, b_13_54, hb, rc, rl, tG, vG, Int.reduceEq, reduceIte, or_true, true_or, or_false, false_or, or_self, List.foldl_cons, List.foldl_nil, List.cons_append, List.nil_append, List.foldl_append, wr_of, ↓reduceIte, ck_T, lt_T, lt_F, le_T, le_F, eq_T, eq_F, and_true, true_and, and_false, false_and, or_true, true_or, or_false, false_or, and_self, or_self, not_true_eq_false, not_false_eq_true, implies_true, forall_const, true_implies, false_implies, ri_k, rn_k, rr_k, wr_bi, bi_e0, bi_e1, bi_T, bi_F, Classical.not_not, itp, itn, ck_t]
theorem H_ends {x : Int} (hk : 0 ≤ k ∧ k ≤ 6) (h : hdC k c l n m) : Z e (d + 9) 14 0 [.ref 234, .int (iI k), .int (iI x)] [] m = ri (vE c l n k x) ((tE k).foldl bgC m) := by
  have hb : ∀ (D : Nat) (μ : zMm) (b : Int), hdC k c l n μ → Z e D 12 0 [.ref 234, .int (iI b)] [] μ = rn (bgC μ b) := fun D μ b => begin_ok
  have hg : ∀ (D : Nat) (μ : zMm) (y : Int), hdC k c l n μ → Z e (D + 4) 13 0 [.ref 234, .int (iI k), .int (iI y)] [] μ = ri (vG c l k y) ((tG k).foldl bgC μ) := fun D μ y z => H_guards hk z
  have rn' : ∀ μ, hdC k c l n μ → μ 234 9 = n := fun μ z => z.2.1
  have rk : ∀ μ, hdC k c l n μ → μ 234 12 = k := fun μ z => z.2.2.2.2
  have hx : k = 0 ∨ k = 1 ∨ k = 2 ∨ k = 3 ∨ k = 4 ∨ k = 5 ∨ k = 6 := by omega
  rcases hx with z | z | z | z | z | z | z <;> subst z <;> simp (disch := first | omega | (repeat' (first | assumption | apply hdC.b | apply hdC.f)) | exact cat_i | exact cat_u | exact cat_r | exact rfl) only [b_14_0, b_14_12, b_14_35, b_14_55, b_14_83, b_14_98, b_14_18, b_14_41, b_14_61, b_14_91, b_14_107, b_14_70, hb, hg, rn', rk, tE, vE, Int.reduceEq, reduceIte, or_true, true_or, or_false, false_or, or_self, List.foldl_cons, List.foldl_nil, List.cons_append, List.nil_append, List.foldl_append, wr_of, ↓reduceIte, ck_T, lt_T, lt_F, le_T, le_F, eq_T, eq_F, and_true, true_and, and_false, false_and, or_true, true_or, or_false, false_or, and_self, or_self, not_true_eq_false, not_false_eq_true, implies_true, forall_const, true_implies, false_implies, ri_k, rn_k, rr_k, wr_bi, bi_e0, bi_e1, bi_T, bi_F, Classical.not_not, itp, itn, ck_t]
theorem H_costs {x : Int} (hk : 0 ≤ k ∧ k ≤ 6) (h : hdC k c l n m) : Z e (d + 12) 15 0 [.ref 234, .int (iI k), .int (iI x)] [] m = ri (vC c l n k x) ((tC k).foldl bgC m) := by
  have hb : ∀ (D : Nat) (μ : zMm) (b : Int), hdC k c l n μ → Z e D 12 0 [.ref 234, .int (iI b)] [] μ = rn (bgC μ b) := fun D μ b => begin_ok
  have he : ∀ (D : Nat) (μ : zMm) (y : Int), hdC k c l n μ → Z e (D + 9) 14 0 [.ref 234, .int (iI k), .int (iI y)] [] μ = ri (vE c l n k y) ((tE k).foldl bgC μ) := fun D μ y z => H_ends hk z
  have rn' : ∀ μ, hdC k c l n μ → μ 234 9 = n := fun μ z => z.2.1
  have rl : ∀ μ, hdC k c l n μ → μ 234 11 = l := fun μ z => z.2.2.2.1
  have rk : ∀ μ, hdC k c l n μ → μ 234 12 = k := fun μ z => z.2.2.2.2
  have hx : k = 0 ∨ k = 1 ∨ k = 2 ∨ k = 3 ∨ k = 4 ∨ k = 5 ∨ k = 6 := by omega
  rcases hx with z | z | z | z | z | z | z <;> subst z <;> simp (disch := first | omega | (repeat' (first | assumption | apply hdC.b | apply hdC.f)) | exact cat_i | exact cat_u | exact cat_r | exact rfl) only [b_15_0, b_15_12, b_15_40, b_15_73, b_15_88, b_15_18, b_15_46, b_15_79, b_15_97, b_15_27, hb, he, rn', rl, rk, tC, vC, Int.reduceEq, reduceIte, or_true, true_or, or_false, false_or, or_self, List.foldl_cons, List.foldl_nil, List.cons_append, List.nil_append, List.foldl_append, wr_of, ↓reduceIte, ck_T, lt_T, lt_F, le_T, le_F, eq_T, eq_F, and_true, true_and, and_false, false_and, or_true, true_or, or_false, false_or, and_self, or_self, not_true_eq_false, not_false_eq_true, implies_true, forall_const, true_implies, false_implies, ri_k, rn_k, rr_k, wr_bi, bi_e0, bi_e1, bi_T, bi_F, Classical.not_not, itp, itn, ck_t]
theorem H_base {x : Int} {u1 : Value} (wc : wr c = c) (c0 : 0 ≤ c) (c1 : c < 100) (h : hdC k c l n m) : Z e (d + 1) 16 60 [.ref 234, u1, .int (iI x)] [] m = ri (pB c x) (um m 234 13 (if c = 11 then 1 else 0)) := by
  have rc : m 234 10 = c := h.2.2.1
  rw [b_16_60, rc, wc, um_s, um_i (by decide), rc]
  unfold pB
  by_cases z : c = 11
  · rw [itp z, itp (show ¬ wr 1 = 0 by decide), if_pos z, ck_t (fun y => absurd (show ¬ wr 1 = 0 by decide) y)]
  · rw [itn z, itn (show ¬ ¬ wr 0 = 0 by decide), if_neg z, ck_t (fun _ => by rw [wr_of (by omega) (by omega)]; omega)]
theorem H_parts {x : Int} (wc : wr c = c) (c0 : 0 ≤ c) (c1 : c < 100) (hk : 0 ≤ k ∧ k ≤ 6) (h : hdC k c l n m) : Z e (d + 4) 16 0 [.ref 234, .int (iI k), .int (iI x)] [] m = ri (vP c n k x) (um ((tP k).foldl bgC m) 234 13 (if c = 11 then 1 else 0)) := by
  have hb : ∀ (D : Nat) (μ : zMm) (b : Int), hdC k c l n μ → Z e D 12 0 [.ref 234, .int (iI b)] [] μ = rn (bgC μ b) := fun D μ b => begin_ok
  have hp : ∀ (D : Nat) (μ : zMm) (u1 : Value) (y : Int), hdC k c l n μ → Z e (D + 1) 16 60 [.ref 234, u1, .int (iI y)] [] μ = ri (pB c y) (um μ 234 13 (if c = 11 then 1 else 0)) := fun D μ u1 y z => H_base wc c0 c1 z
  have rn' : ∀ μ, hdC k c l n μ → μ 234 9 = n := fun μ z => z.2.1
  have hx : k = 0 ∨ k = 1 ∨ k = 2 ∨ k = 3 ∨ k = 4 ∨ k = 5 ∨ k = 6 := by omega
  rcases hx with z | z | z | z | z | z | z <;> subst z <;> simp (disch := first | omega | (repeat' (first | assumption | apply hdC.b | apply hdC.f)) | exact cat_i | exact cat_u | exact cat_r | exact rfl) only [b_16_0, b_16_17, b_16_25, b_16_42, b_16_48, hb, hp, rn', um_i, tP, vP, Int.reduceEq, reduceIte, or_true, true_or, or_false, false_or, or_self, List.foldl_cons, List.foldl_nil, List.cons_append, List.nil_append, List.foldl_append, wr_of, ↓reduceIte, ck_T, lt_T, lt_F, le_T, le_F, eq_T, eq_F, and_true, true_and, and_false, false_and, or_true, true_or, or_false, false_or, and_self, or_self, not_true_eq_false, not_false_eq_true, implies_true, forall_const, true_implies, false_implies, ri_k, rn_k, rr_k, wr_bi, bi_e0, bi_e1, bi_T, bi_F, Classical.not_not, itp, itn, ck_t]
end DC
