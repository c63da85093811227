/-! Which word; which number. -/
section WD
variable {e : List Int32 × Value} {d : Nat} {m : zMm} {s t : Int} {T : Int → Int}
noncomputable def wfn (T : Int → Int) (s t : Int) : Nat → Int → Int
  | 0, _ => 1
  | n + 1, x => cif (spl T (wtx x) s t) x (wfn T s t n (x + 1))
noncomputable def wI (T : Int → Int) (s t : Int) : Int := wfn T s t 32 0
theorem wtx_f : ∀ n : Fin 32, 10100 ≤ wtx (n.val : Int) ∧ wtx (n.val : Int) < 10156 ∧ (n.val < 3 ↔ txt (wtx (n.val : Int)) = []) := by decide
theorem wtx_b {x : Int} (x0 : 0 ≤ x) (x1 : x < 32) : 10100 ≤ wtx x ∧ wtx x < 10156 ∧ (x < 3 ↔ txt (wtx x) = []) := by
  have q := wtx_f ⟨x.toNat, by omega⟩
  rw [show (((⟨x.toNat, by omega⟩ : Fin 32).val : Nat) : Int) = x by show (x.toNat : Int) = x; omega] at q
  refine ⟨q.1, q.2.1, ?_⟩
  rw [← q.2.2]
  show x < 3 ↔ x.toNat < 3
  omega
theorem wtx_j : ∀ n k : Fin 32, txt (wtx (n.val : Int)) = txt (wtx (k.val : Int)) → n = k ∨ n.val < 3 := by decide
theorem wtx_inj {x y : Int} (x0 : 3 ≤ x) (x1 : x < 32) (y0 : 0 ≤ y) (y1 : y < 32) (h : txt (wtx x) = txt (wtx y)) : x = y := by
  have q := wtx_j ⟨x.toNat, by omega⟩ ⟨y.toNat, by omega⟩
  rw [show (((⟨x.toNat, by omega⟩ : Fin 32).val : Nat) : Int) = x by show (x.toNat : Int) = x; omega, show (((⟨y.toNat, by omega⟩ : Fin 32).val : Nat) : Int) = y by show (y.toNat : Int) = y; omega] at q
  rcases q h with z | z
  · have : x.toNat = y.toNat := congrArg Fin.val z
    omega
  · have : x.toNat < 3 := z
    omega
theorem ext_ch {l l' : List Int32} (hl : l.length = l'.length) (h : ∀ n, n < l.length → (l.getD n 0).toInt = (l'.getD n 0).toInt) : l = l' := by
  refine List.ext_getElem hl (fun n h1 h2 => ?_)
  have e2 := h n h1
  rw [List.getD_eq_getElem?_getD, List.getD_eq_getElem?_getD, List.getElem?_eq_getElem h1, List.getElem?_eq_getElem h2] at e2
  exact Int32.toInt_inj.mp e2
theorem spl_txt {a a' : Nat} (h : spl T a s t) (h' : spl T a' s t) : txt a = txt a' := by
  unfold spl tch at h h'
  generalize txt a = l at h ⊢
  generalize txt a' = l' at h' ⊢
  refine ext_ch (by omega) (fun n h1 => ?_)
  have e1 := h.2 (n : Int) (by omega) (by omega)
  have e2 := h'.2 (n : Int) (by omega) (by omega)
  rw [e1, Int.toNat_natCast] at e2
  exact e2
theorem wfn_b : ∀ (n : Nat) (x : Int), x + n = 32 → 0 ≤ x → (wfn T s t n x = 1 ∧ (∀ y, x ≤ y → y < 32 → ¬ spl T (wtx y) s t)) ∨ (x ≤ wfn T s t n x ∧ wfn T s t n x < 32 ∧ spl T (wtx (wfn T s t n x)) s t) := by
  intro n
  induction n with
  | zero => intro x hx x0; exact Or.inl ⟨rfl, fun y a b => by omega⟩
  | succ n ih =>
    intro x hx x0
    rw [wfn]
    by_cases q : spl T (wtx x) s t
    · rw [cif_t q]; exact Or.inr ⟨Int.le_refl _, by omega, q⟩
    · rw [cif_f q]
      rcases ih (x + 1) (by omega) (by omega) with ⟨z, y⟩ | ⟨z, y⟩
      · refine Or.inl ⟨z, fun w a b => ?_⟩
        by_cases c : w = x
        · rw [c]; exact q
        · exact y w (by omega) b
      · exact Or.inr ⟨by omega, y⟩
theorem wI_b : 0 ≤ wI T s t ∧ wI T s t < 32 := by
  rcases wfn_b (T := T) (s := s) (t := t) 32 0 (by decide) (by decide) with z | z
  · unfold wI; omega
  · unfold wI; omega
theorem wI_iff {x : Int} (h : s < t) (x0 : 3 ≤ x) (x1 : x < 32) : wI T s t = x ↔ spl T (wtx x) s t := by
  unfold wI
  rcases wfn_b (T := T) (s := s) (t := t) 32 0 (by decide) (by decide) with z | z
  · constructor
    · intro y; omega
    · intro y; exact absurd y (z.2 x (by omega) x1)
  · constructor
    · intro y; rw [← y]; exact z.2.2
    · intro y; exact (wtx_inj x0 x1 z.1 z.2.1 (spl_txt y z.2.2)).symm
theorem C_word (hv : e.2 = .null ∨ e.2 = .ref 10301) (hr : Rng m) (s0 : 0 ≤ s) (st : s ≤ t) (tl : t ≤ 300) : Z e (d + 5) 71 0 [.ref 179, .int (iI s), .int (iI t), .retAddr 0] [] m = rr (10000 + (wI (m 180) s t).toNat) m := by
  have loop : ∀ (n : Nat) (x : Int), x + n = 32 → 0 ≤ x → Z e (d + 5) 71 2 [.ref 179, .int (iI s), .int (iI t), .int (iI x)] [] m = rr (10000 + (wfn (m 180) s t n x).toNat) m := by
    intro n
    induction n with
    | zero =>
      intro x hx x0
      rw [b_71_2, wr_of (x := x) (by omega) (by omega), itn (by omega)]
      rfl
    | succ n ih =>
      intro x hx x0
      have b := wtx_b x0 (by omega)
      rw [b_71_2, wr_of (x := x) (by omega) (by omega), itp (by omega), ck_t (by omega), C_spell hv b.1 b.2.1 hr s0 st tl, ri_k, b_71_26, wr_of (x := x) (by omega) (by omega), wfn]
      by_cases q : spl (m 180) (wtx x) s t
      · rw [bi_t q, cif_t q, show wr 1 = 1 from rfl, itp (by decide), ck_t (by omega)]
      · rw [bi_f q, cif_f q, show wr 0 = 0 from rfl, itn (fun z => z rfl)]
        exact ih (x + 1) (by omega) (by omega)
  rw [b_71_0]
  exact loop 32 0 (by decide) (by decide)
noncomputable def numS (T : Int → Int) (s t : Int) : Int := cif (3 < t - s) 1000 (itr (fun i x => x * 10 + T i - 48) s (t - s).toNat 0)
theorem C_num (s0 : 0 ≤ s) (st : s ≤ t) (tl : t ≤ 300) : Z e d 73 0 [.ref 179, .int (iI s), .int (iI t), .retAddr 0, .retAddr 0] [] m = ri (numS (m 180) s t) m := by
  unfold numS
  rw [b_73_0, wr_of (x := t - s) (by omega) (by omega)]
  by_cases q : 3 < t - s
  · rw [itp q, cif_t q]
  · rw [itn q, cif_f q]
    have loop : ∀ (n : Nat) (p x : Int), p + n = t → 0 ≤ p → Z e d 73 16 [.ref 179, .int (iI s), .int (iI t), .int (iI x), .int (iI p)] [] m = ri (itr (fun i x => x * 10 + m 180 i - 48) p n x) m := by
      intro n
      induction n with
      | zero =>
        intro p x hp p0
        rw [b_73_16, wr_of (x := p) (by omega) (by omega), wr_of (x := t) (by omega) (by omega), itn (by omega)]
        rfl
      | succ n ih =>
        intro p x hp p0
        rw [b_73_16, wr_of (x := p) (by omega) (by omega), wr_of (x := t) (by omega) (by omega), itp (by omega), ck_t (by omega), ih (p + 1) _ (by omega) (by omega)]
        rfl
    exact loop (t - s).toNat s 0 (by omega) s0
end WD
