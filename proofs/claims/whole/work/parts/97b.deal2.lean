/-! Deals: the reference. -/
def bgM (m : zMm) (b : Int) : zMm := if 30 ≤ m 246 35 then m else um (um m 267 (m 246 35) b) 246 35 (m 246 35 + 1)
def hdM (k c l n : Int) (m : zMm) : Prop := (0 ≤ m 246 35 ∧ m 246 35 ≤ 30) ∧ m 246 36 = n ∧ m 247 (110 + 9 * n + 0) = c ∧ m 247 (110 + 9 * n + 1) = l ∧ m 247 (110 + 9 * n + 2) = k
section DM
variable {e : List Int32 × Value} {d : Nat} {m : zMm} {k c l n : Int}
theorem bgM_o {b i : Int} {k' : Nat} (h1 : ¬ (k' = 246 ∧ i = 35)) (h2 : ¬ k' = 267) : bgM m b k' i = m k' i := by
  unfold bgM
  split
  · rfl
  · by_cases h : k' = 246
    · subst h
      rw [um_i (fun z => h1 ⟨rfl, z⟩), um_k (by decide)]
    · rw [um_k h, um_k h2]
theorem hdM.b {b : Int} (h : hdM k c l n m) : hdM k c l n (bgM m b) := by
  obtain ⟨h0, h1, h2, h3, h4⟩ := h
  refine ⟨?_, by rw [bgM_o (by omega) (by decide)]; exact h1, by rw [bgM_o (by omega) (by decide)]; exact h2, by rw [bgM_o (by omega) (by decide)]; exact h3, by rw [bgM_o (by omega) (by decide)]; exact h4⟩
  unfold bgM
  split
  · exact h0
  · rw [um_s]; omega
theorem hdM.f {T : List Int} : ∀ {m : zMm}, hdM k c l n m → hdM k c l n (T.foldl bgM m) := by
  induction T with
  | nil => intro m h; exact h
  | cons a T ih => intro m h; exact ih h.b
theorem began_ok {b : Int} (h : hdM k c l n m) : Z e d 310 0 [.ref 246, .int (iI b)] [] m = rn (bgM m b) := by
  have h0 := h.1
  have w : wr (m 246 35) = m 246 35 := wr_of (by omega) (by omega)
  unfold bgM
  rw [b_310_0, w, um_k (by decide)]
  by_cases z : 30 ≤ m 246 35
  · rw [itn (by omega), if_pos z]
  · rw [itp (by omega), if_neg z, ck_t (by omega)]
theorem D_guards {x : Int} (n0 : 0 ≤ n) (n1 : n < 16) (hk : 0 ≤ k ∧ k ≤ 6) (h : hdM k c l n m) : Z e (d + 10) 313 0 [.ref 246, .int (iI 0), .int (iI x)] [] m = ri (vG c l k x) ((tG k).foldl bgM m) := by
  have hb : ∀ (D : Nat) (μ : zMm) (b : Int), hdM k c l n μ → Z e D 310 0 [.ref 246, .int (iI b)] [] μ = rn (bgM μ b) := fun D μ b => began_ok
  have r6 : ∀ μ, hdM k c l n μ → μ 246 36 = n := fun μ z => z.2.1
  have rc : ∀ μ, hdM k c l n μ → μ 247 (110 + 9 * n + 0) = c := fun μ z => z.2.2.1
  have rl : ∀ μ, hdM k c l n μ → μ 247 (110 + 9 * n + 1) = l := fun μ z => z.2.2.2.1
  have rk : ∀ μ, hdM k c l n μ → μ 247 (110 + 9 * n + 2) = k := fun μ z => z.2.2.2.2
  have hx : k = 0 ∨ k = 1 ∨ k = 2 ∨ k = 3 ∨ k = 4 ∨ k = 5 ∨ k = 6 := by omega
  rcases hx with z | z | z | z | z | z | z <;> subst z <;> simp (disch := first | omega | exact cat_i | exact cat_u | exact cat_r | exact rfl | (repeat' (first | assumption | apply hdM.b | apply hdM.f))) only [b_313_0, b_313_9, b_313_13, b_315_0, b_315_158, b_315_168, b_315_183, b_315_201, b_315_246, b_315_263, b_315_279, b_315_295, b_315_314, b_315_330, b_315_355, b_315_372, b_315_388, b_315_404, b_315_430, b_315_174, b_315_189, b_315_253, b_315_270, b_315_288, b_315_302, b_315_322, b_315_337, b_315_362, b_315_379, b_315_397, b_315_412, b_315_438, b_315_347, b_315_422, b_312_0, b_312_2, b_314_0, b_314_9, b_314_13, hb, r6, rc, rl, rk, tG, vG, Int.reduceEq, Int.reduceMul, Int.reduceAdd, Int.reduceLT, Int.reduceLE, Int.reduceNeg, reduceIte, or_true, true_or, or_false, false_or, or_self, List.foldl_cons, List.foldl_nil, List.cons_append, List.nil_append, List.foldl_append, wr_of, ↓reduceIte, ck_T, lt_T, lt_F, le_T, le_F, eq_T, eq_F, and_true, true_and, and_false, false_and, or_true, true_or, or_false, false_or, and_self, or_self, not_true_eq_false, not_false_eq_true, implies_true, forall_const, true_implies, false_implies, ri_k, rn_k, rr_k, wr_bi, bi_e0, bi_e1, bi_T, bi_F, Classical.not_not, itp, itn, ck_t]
theorem D_ends {x : Int} (n0 : 0 ≤ n) (n1 : n < 16) (hk : 0 ≤ k ∧ k ≤ 6) (h : hdM k c l n m) : Z e (d + 20) 313 0 [.ref 246, .int (iI 1), .int (iI x)] [] m = ri (vE c l n k x) ((tE k).foldl bgM m) := by
  have hb : ∀ (D : Nat) (μ : zMm) (b : Int), hdM k c l n μ → Z e D 310 0 [.ref 246, .int (iI b)] [] μ = rn (bgM μ b) := fun D μ b => began_ok
  have r6 : ∀ μ, hdM k c l n μ → μ 246 36 = n := fun μ z => z.2.1
  have rc : ∀ μ, hdM k c l n μ → μ 247 (110 + 9 * n + 0) = c := fun μ z => z.2.2.1
  have rl : ∀ μ, hdM k c l n μ → μ 247 (110 + 9 * n + 1) = l := fun μ z => z.2.2.2.1
  have rk : ∀ μ, hdM k c l n μ → μ 247 (110 + 9 * n + 2) = k := fun μ z => z.2.2.2.2
  have hg : ∀ (D : Nat) (μ : zMm) (y : Int), hdM k c l n μ → Z e (D + 10) 313 0 [.ref 246, .int (iI 0), .int (iI y)] [] μ = ri (vG c l k y) ((tG k).foldl bgM μ) := fun D μ y z => D_guards n0 n1 hk z
  have hx : k = 0 ∨ k = 1 ∨ k = 2 ∨ k = 3 ∨ k = 4 ∨ k = 5 ∨ k = 6 := by omega
  rw [b_313_0]
  rcases hx with z | z | z | z | z | z | z <;> subst z <;> simp (disch := first | omega | exact cat_i | exact cat_u | exact cat_r | exact rfl | (repeat' (first | assumption | apply hdM.b | apply hdM.f))) only [b_313_9, b_313_13, b_315_0, b_315_158, b_315_168, b_315_183, b_315_201, b_315_246, b_315_263, b_315_279, b_315_295, b_315_314, b_315_330, b_315_355, b_315_372, b_315_388, b_315_404, b_315_430, b_315_174, b_315_189, b_315_253, b_315_270, b_315_288, b_315_302, b_315_322, b_315_337, b_315_362, b_315_379, b_315_397, b_315_412, b_315_438, b_315_347, b_315_422, b_312_0, b_312_2, b_314_0, b_314_9, b_314_13, hb, hg, r6, rc, rl, rk, tE, vE, Int.reduceEq, Int.reduceMul, Int.reduceAdd, Int.reduceLT, Int.reduceLE, Int.reduceNeg, reduceIte, or_true, true_or, or_false, false_or, or_self, List.foldl_cons, List.foldl_nil, List.cons_append, List.nil_append, List.foldl_append, wr_of, ↓reduceIte, ck_T, lt_T, lt_F, le_T, le_F, eq_T, eq_F, and_true, true_and, and_false, false_and, or_true, true_or, or_false, false_or, and_self, or_self, not_true_eq_false, not_false_eq_true, implies_true, forall_const, true_implies, false_implies, ri_k, rn_k, rr_k, wr_bi, bi_e0, bi_e1, bi_T, bi_F, Classical.not_not, itp, itn, ck_t]
theorem D_costs {x : Int} (n0 : 0 ≤ n) (n1 : n < 16) (hk : 0 ≤ k ∧ k ≤ 6) (h : hdM k c l n m) : Z e (d + 28) 313 0 [.ref 246, .int (iI 2), .int (iI x)] [] m = ri (vC c l n k x) ((tC k).foldl bgM m) := by
  have hb : ∀ (D : Nat) (μ : zMm) (b : Int), hdM k c l n μ → Z e D 310 0 [.ref 246, .int (iI b)] [] μ = rn (bgM μ b) := fun D μ b => began_ok
  have r6 : ∀ μ, hdM k c l n μ → μ 246 36 = n := fun μ z => z.2.1
  have rc : ∀ μ, hdM k c l n μ → μ 247 (110 + 9 * n + 0) = c := fun μ z => z.2.2.1
  have rl : ∀ μ, hdM k c l n μ → μ 247 (110 + 9 * n + 1) = l := fun μ z => z.2.2.2.1
  have rk : ∀ μ, hdM k c l n μ → μ 247 (110 + 9 * n + 2) = k := fun μ z => z.2.2.2.2
  have he : ∀ (D : Nat) (μ : zMm) (y : Int), hdM k c l n μ → Z e (D + 20) 313 0 [.ref 246, .int (iI 1), .int (iI y)] [] μ = ri (vE c l n k y) ((tE k).foldl bgM μ) := fun D μ y z => D_ends n0 n1 hk z
  have hx : k = 0 ∨ k = 1 ∨ k = 2 ∨ k = 3 ∨ k = 4 ∨ k = 5 ∨ k = 6 := by omega
  rw [b_313_0]
  rcases hx with z | z | z | z | z | z | z <;> subst z <;> simp (disch := first | omega | exact cat_i | exact cat_u | exact cat_r | exact rfl | (repeat' (first | assumption | apply hdM.b | apply hdM.f))) only [b_313_9, b_313_13, b_315_0, b_315_158, b_315_168, b_315_183, b_315_201, b_315_246, b_315_263, b_315_279, b_315_295, b_315_314, b_315_330, b_315_355, b_315_372, b_315_388, b_315_404, b_315_430, b_315_174, b_315_189, b_315_253, b_315_270, b_315_288, b_315_302, b_315_322, b_315_337, b_315_362, b_315_379, b_315_397, b_315_412, b_315_438, b_315_347, b_315_422, b_312_0, b_312_2, b_314_0, b_314_9, b_314_13, hb, he, r6, rc, rl, rk, tC, vC, Int.reduceEq, Int.reduceMul, Int.reduceAdd, Int.reduceLT, Int.reduceLE, Int.reduceNeg, reduceIte, or_true, true_or, or_false, false_or, or_self, List.foldl_cons, List.foldl_nil, List.cons_append, List.nil_append, List.foldl_append, wr_of, ↓reduceIte, ck_T, lt_T, lt_F, le_T, le_F, eq_T, eq_F, and_true, true_and, and_false, false_and, or_true, true_or, or_false, false_or, and_self, or_self, not_true_eq_false, not_false_eq_true, implies_true, forall_const, true_implies, false_implies, ri_k, rn_k, rr_k, wr_bi, bi_e0, bi_e1, bi_T, bi_F, Classical.not_not, itp, itn, ck_t]
theorem D_base {x : Int} {u1 u4 u5 u6 : Value} (wc : wr c = c) (c0 : 0 ≤ c) (c1 : c < 100) (h37 : m 246 37 = 0) : Z e (d + 1) 315 201 [.ref 246, u1, .int (iI x), .int (iI c), u4, u5, u6] [] m = ri (pB c x) (um m 246 37 (if c = 11 then 1 else 0)) := by
  rw [b_315_201, wc, h37]
  unfold pB
  by_cases z : c = 11
  · rw [itp z, if_pos z, itp (Or.inr z), ck_t (fun y => absurd z y)]
  · rw [itn z, if_neg z, itn (show ¬ ((¬ wr 0 = 0) ∨ c = 11) from fun y => y.elim (fun w => w (by decide)) z), ck_t (fun _ => by rw [wr_of (by omega) (by omega)]; omega)]
theorem bgM_f37 {T : List Int} : ∀ {m : zMm}, T.foldl bgM m 246 37 = m 246 37 := by
  induction T with
  | nil => intro m; rfl
  | cons a T ih => intro m; rw [List.foldl_cons, ih, bgM_o (by decide) (by decide)]
theorem D_parts {x : Int} (n0 : 0 ≤ n) (n1 : n < 16) (wc : wr c = c) (c0 : 0 ≤ c) (c1 : c < 100) (h37 : m 246 37 = 0) (hk : 0 ≤ k ∧ k ≤ 6) (h : hdM k c l n m) : Z e (d + 10) 313 0 [.ref 246, .int (iI 3), .int (iI x)] [] m = ri (vP c n k x) (um ((tP k).foldl bgM m) 246 37 (if c = 11 then 1 else 0)) := by
  have hb : ∀ (D : Nat) (μ : zMm) (b : Int), hdM k c l n μ → Z e D 310 0 [.ref 246, .int (iI b)] [] μ = rn (bgM μ b) := fun D μ b => began_ok
  have r6 : ∀ μ, hdM k c l n μ → μ 246 36 = n := fun μ z => z.2.1
  have rc : ∀ μ, hdM k c l n μ → μ 247 (110 + 9 * n + 0) = c := fun μ z => z.2.2.1
  have rl : ∀ μ, hdM k c l n μ → μ 247 (110 + 9 * n + 1) = l := fun μ z => z.2.2.2.1
  have rk : ∀ μ, hdM k c l n μ → μ 247 (110 + 9 * n + 2) = k := fun μ z => z.2.2.2.2
  have h37b : ∀ (μ : zMm) (b : Int), bgM μ b 246 37 = μ 246 37 := fun μ b => bgM_o (by decide) (by decide)
  have hp : ∀ (D : Nat) (b1 : Int) (u1 u4 u5 u6 : Value) (y : Int), Z e (D + 1) 315 201 [.ref 246, u1, .int (iI y), .int (iI c), u4, u5, u6] [] (bgM m b1) = ri (pB c y) (um (bgM m b1) 246 37 (if c = 11 then 1 else 0)) := fun D b1 u1 u4 u5 u6 y => D_base wc c0 c1 (by rw [h37b]; exact h37)
  have hp2 : ∀ (D : Nat) (b1 b2 : Int) (u1 u4 u5 u6 : Value) (y : Int), Z e (D + 1) 315 201 [.ref 246, u1, .int (iI y), .int (iI c), u4, u5, u6] [] (bgM (bgM m b1) b2) = ri (pB c y) (um (bgM (bgM m b1) b2) 246 37 (if c = 11 then 1 else 0)) := fun D b1 b2 u1 u4 u5 u6 y => D_base wc c0 c1 (by rw [h37b, h37b]; exact h37)
  have hx : k = 0 ∨ k = 1 ∨ k = 2 ∨ k = 3 ∨ k = 4 ∨ k = 5 ∨ k = 6 := by omega
  rw [b_313_0]
  rcases hx with z | z | z | z | z | z | z <;> subst z <;> simp (disch := first | omega | exact cat_i | exact cat_u | exact cat_r | exact rfl | (repeat' (first | assumption | apply hdM.b | apply hdM.f))) only [b_313_9, b_313_13, b_315_0, b_315_158, b_315_168, b_315_183, b_315_246, b_315_263, b_315_279, b_315_295, b_315_314, b_315_330, b_315_355, b_315_372, b_315_388, b_315_404, b_315_430, b_315_174, b_315_189, b_315_253, b_315_270, b_315_288, b_315_302, b_315_322, b_315_337, b_315_362, b_315_379, b_315_397, b_315_412, b_315_438, b_315_347, b_315_422, b_312_0, b_312_2, b_314_0, b_314_9, b_314_13, hb, hp, hp2, r6, rc, rl, rk, um_i, tP, vP, Int.reduceEq, Int.reduceMul, Int.reduceAdd, Int.reduceLT, Int.reduceLE, Int.reduceNeg, reduceIte, or_true, true_or, or_false, false_or, or_self, List.foldl_cons, List.foldl_nil, List.cons_append, List.nil_append, List.foldl_append, wr_of, ↓reduceIte, ck_T, lt_T, lt_F, le_T, le_F, eq_T, eq_F, and_true, true_and, and_false, false_and, or_true, true_or, or_false, false_or, and_self, or_self, not_true_eq_false, not_false_eq_true, implies_true, forall_const, true_implies, false_implies, ri_k, rn_k, rr_k, wr_bi, bi_e0, bi_e1, bi_T, bi_F, Classical.not_not, itp, itn, ck_t]
end DM
