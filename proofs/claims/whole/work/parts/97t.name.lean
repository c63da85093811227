/-! A word on the tape is spelled as a text. -/
section NM
variable {e : List Int32 × Value} {d : Nat} {m : zMm} {a : Nat} {s t : Int}
def spl (T : Int → Int) (a : Nat) (s t : Int) : Prop := ((txt a).length : Int) = t - s ∧ ∀ j, 0 ≤ j → j < t - s → T (s + j) = tch a j
theorem C_spell (hv : e.2 = .null ∨ e.2 = .ref 10301) (h0 : 10100 ≤ a) (h1 : a < 10156) (hr : Rng m) (s0 : 0 ≤ s) (st : s ≤ t) (tl : t ≤ 300) : Z e (d + 4) 72 0 [.ref 179, .ref a, .int (iI s), .int (iI t), .retAddr 0] [] m = ri (bi (spl (m 180) a s t)) m := by
  have len : ∀ d', Z e (d' + 1) 326 0 [.ref a] [] m = ri ((txt a).length : Int) m := fun d' => S_len h0 h1
  have lb := txt_len h0 h1
  have zs : zisS (zE0 e.1 e.2) a = true := zis_s h0 h1
  have ch : ∀ j, 0 ≤ j → j < ((txt a).length : Int) → Z e (d + 3) 327 0 [.ref a, .int (iI j)] [] m = ri (tch a j) m := fun j j0 j1 => S_char hv h0 h1 j0 j1
  have cb : ∀ j, 0 ≤ j → j < ((txt a).length : Int) → 0 ≤ tch a j ∧ tch a j < 128 := fun j j0 j1 => tch_b h0 h1 j0 j1
  unfold spl
  generalize hn : ((txt a).length : Int) = n at len ch cb ⊢
  have nb : 0 ≤ n ∧ n < 20 := by omega
  clear hn lb
  rw [b_72_0 zs, len (d + 2), ri_k, b_72_4, wr_of (x := n) (by omega) (by omega), wr_of (x := t - s) (by omega) (by omega)]
  by_cases q : n = t - s
  · rw [itn (fun z => z q)]
    have loop : ∀ (k : Nat) (j : Int), j + k = t - s → 0 ≤ j → (∀ j', 0 ≤ j' → j' < j → m 180 (s + j') = tch a j') → Z e (d + 4) 72 15 [.ref 179, .ref a, .int (iI s), .int (iI t), .int (iI j)] [] m = ri (bi (n = t - s ∧ ∀ j', 0 ≤ j' → j' < t - s → m 180 (s + j') = tch a j')) m := by
      intro k
      induction k with
      | zero =>
        intro j hj j0 hp
        rw [b_72_15 zs, len (d + 2), ri_k, b_72_21 zs, wr_of (x := n) (by omega) (by omega), wr_of (x := j) (by omega) (by omega), itn (by omega), bi_t ⟨q, fun j' a b => hp j' a (by omega)⟩]
      | succ k ih =>
        intro j hj j0 hp
        have c := cb j j0 (by omega)
        rw [b_72_15 zs, len (d + 2), ri_k, b_72_21 zs, wr_of (x := n) (by omega) (by omega), wr_of (x := j) (by omega) (by omega), itp (by omega), wr_of (x := s + j) (by omega) (by omega), ck_t (by omega), ch j j0 (by omega), ri_k, b_72_39 rfl, hr _ _, wr_of (x := tch a j) (Int.le_trans (by decide) c.1) (Int.lt_trans c.2 (by decide))]
        by_cases z : m 180 (s + j) = tch a j
        · rw [itn (fun y => y z)]
          refine ih (j + 1) (by omega) (by omega) (fun j' a b => ?_)
          by_cases y : j' = j
          · rw [y]; exact z
          · exact hp j' a (by omega)
        · rw [itp z, bi_f (fun y => z (y.2 j j0 (by omega)))]
    exact loop (t - s).toNat 0 (by omega) (by decide) (fun j' a b => by omega)
  · rw [itp q, bi_f (fun z => q z.1)]
theorem M_name (hv : e.2 = .null ∨ e.2 = .ref 10301) (h0 : 10100 ≤ a) (h1 : a < 10156) (hr : Rng m) (s0 : 0 ≤ m 246 15) (st : m 246 15 ≤ m 246 16) (tl : m 246 16 ≤ 300) : Z e (d + 4) 230 0 [.ref 246, .ref a, .retAddr 0, .retAddr 0] [] m = ri (bi ((m 246 18 = 0 ∧ m 246 17 = 1) ∧ spl (m 249) a (m 246 15) (m 246 16))) m := by
  have len : ∀ d', Z e (d' + 1) 326 0 [.ref a] [] m = ri ((txt a).length : Int) m := fun d' => S_len h0 h1
  have lb := txt_len h0 h1
  have zs : zisS (zE0 e.1 e.2) a = true := zis_s h0 h1
  have ch : ∀ j, 0 ≤ j → j < ((txt a).length : Int) → Z e (d + 3) 327 0 [.ref a, .int (iI j)] [] m = ri (tch a j) m := fun j j0 j1 => S_char hv h0 h1 j0 j1
  have cb : ∀ j, 0 ≤ j → j < ((txt a).length : Int) → 0 ≤ tch a j ∧ tch a j < 128 := fun j j0 j1 => tch_b h0 h1 j0 j1
  unfold spl
  generalize hn : ((txt a).length : Int) = n at len ch cb ⊢
  have nb : 0 ≤ n ∧ n < 20 := by omega
  clear hn lb
  obtain ⟨s, hs⟩ : ∃ s, m 246 15 = s := ⟨_, rfl⟩
  obtain ⟨t, ht⟩ : ∃ t, m 246 16 = t := ⟨_, rfl⟩
  rw [hs] at s0 st ⊢
  rw [ht] at st tl ⊢
  have no : ∀ j, Z e (d + 4) 230 39 [.ref 246, .ref a, .int (iI 0), .int (iI j)] [] m = ri 0 m := fun j => by
    rw [b_230_39 zs, show wr 0 = 0 from rfl, itn (fun z => z rfl), ck_t (nbp_of (Or.inl rfl))]
  rw [b_230_0 zs, hr _ _, hr _ _]
  by_cases p : m 246 18 = 0 ∧ m 246 17 = 1
  · rw [itp p, len (d + 2), ri_k, b_230_28, hs, ht, wr_of (x := n) (by omega) (by omega), wr_of (x := t - s) (by omega) (by omega)]
    by_cases q : n = t - s
    · rw [itp q.symm]
      have loop : ∀ (k : Nat) (j : Int), j + k = t - s → 0 ≤ j → (∀ j', 0 ≤ j' → j' < j → m 249 (s + j') = tch a j') → Z e (d + 4) 230 39 [.ref 246, .ref a, .int (iI 1), .int (iI j)] [] m = ri (bi ((m 246 18 = 0 ∧ m 246 17 = 1) ∧ n = t - s ∧ ∀ j', 0 ≤ j' → j' < t - s → m 249 (s + j') = tch a j')) m := by
        intro k
        induction k with
        | zero =>
          intro j hj j0 hp
          rw [b_230_39 zs, show wr 1 = 1 from rfl, itp (by decide), len (d + 2), ri_k, b_230_48 zs, wr_of (x := n) (by omega) (by omega), wr_of (x := j) (by omega) (by omega), itn (by omega), bi_t ⟨p, q, fun j' a b => hp j' a (by omega)⟩, ck_t (nbp_of (Or.inr rfl))]
        | succ k ih =>
          intro j hj j0 hp
          have c := cb j j0 (by omega)
          rw [b_230_39 zs, show wr 1 = 1 from rfl, itp (by decide), len (d + 2), ri_k, b_230_48 zs, wr_of (x := n) (by omega) (by omega), wr_of (x := j) (by omega) (by omega), itp (by omega), hs, wr_of (x := s + j) (by omega) (by omega), ck_t (by omega), ch j j0 (by omega), ri_k, b_230_67, hr _ _, wr_of (x := tch a j) (Int.le_trans (by decide) c.1) (Int.lt_trans c.2 (by decide))]
          by_cases z : m 249 (s + j) = tch a j
          · rw [itp z]
            refine ih (j + 1) (by omega) (by omega) (fun j' a b => ?_)
            by_cases y : j' = j
            · rw [y]; exact z
            · exact hp j' a (by omega)
          · rw [itn z, no, bi_f (fun y => z (y.2.2 j j0 (by omega)))]
      exact loop (t - s).toNat 0 (by omega) (by decide) (fun j' a b => by omega)
    · rw [itn (fun z => q z.symm), no, bi_f (fun z => q z.2.1)]
  · rw [itn p, no, bi_f (fun z => p z.1)]
theorem j8_eq {x c : Int} (x0 : 0 ≤ x) (x1 : x < 256) (c0 : 0 ≤ c) (c1 : c < 128) : (j8 x = c ↔ x = c) := by unfold j8; omega
theorem spl_j8 {T U : Int → Int} (h0 : 10100 ≤ a) (h1 : a < 10156) (h : ∀ i, s ≤ i → i < t → T i = j8 (U i) ∧ 0 ≤ U i ∧ U i < 256) : spl T a s t ↔ spl U a s t := by
  unfold spl
  refine and_congr_right (fun l => ?_)
  have key : ∀ j, 0 ≤ j → j < t - s → (T (s + j) = tch a j ↔ U (s + j) = tch a j) := fun j j0 j1 => by
    have q := h (s + j) (by omega) (by omega)
    have c := tch_b (i := j) h0 h1 j0 (by omega)
    rw [q.1]
    exact j8_eq q.2.1 q.2.2 c.1 c.2
  exact ⟨fun z j j0 j1 => (key j j0 j1).mp (z j j0 j1), fun z j j0 j1 => (key j j0 j1).mpr (z j j0 j1)⟩
end NM
