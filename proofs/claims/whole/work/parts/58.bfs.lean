/-! Ways, cell by cell. -/
theorem nbr_b {c s : Int} (h0 : 0 ≤ c) (h1 : c < 100) (h2 : ¬ nbr c s = -3) : 0 ≤ nbr c s ∧ nbr c s < 100 ∧ ¬ nbr c s = c := by
  unfold nbr at *
  split at h2 <;> (try split at h2) <;> (try split at h2) <;> (try split at h2) <;> (try split at h2) <;> simp_all <;> omega
theorem nbr_s {c s : Int} (h0 : 0 ≤ c) (h1 : c < 100) (g0 : 0 ≤ s) (g1 : s < 4) (h2 : ¬ nbr c s = -3) : ∃ s', 0 ≤ s' ∧ s' < 4 ∧ nbr (nbr c s) s' = c := by
  have hs : s = 0 ∨ s = 1 ∨ s = 2 ∨ s = 3 := by omega
  rcases hs with q | q | q | q <;> subst q
  · by_cases h : 10 ≤ c
    · refine ⟨3, by decide, by decide, ?_⟩
      simp only [nbr, if_true, if_pos h]
      simp
      omega
    · exact absurd (by simp [nbr, h]) h2
  · by_cases h : 0 < c % 10
    · refine ⟨2, by decide, by decide, ?_⟩
      have e1 : nbr c 1 = c - 1 := by simp [nbr, h]
      rw [e1]
      simp [nbr]
      omega
    · exact absurd (by simp [nbr, h]) h2
  · by_cases h : c % 10 < 9
    · refine ⟨1, by decide, by decide, ?_⟩
      have e1 : nbr c 2 = c + 1 := by simp [nbr, h]
      rw [e1]
      simp [nbr]
      omega
    · exact absurd (by simp [nbr, h]) h2
  · by_cases h : c + 10 < 100
    · refine ⟨0, by decide, by decide, ?_⟩
      have e1 : nbr c 3 = c + 10 := by simp [nbr, h]
      rw [e1]
      simp [nbr]
      omega
    · exact absurd (by simp [nbr, h]) h2
theorem way_le {W : Int → Prop} {a : Int} {w1 w2 : Int → Int} (h1 : isWay W a w1) (h2 : isWay W a w2) : ∀ (k : Nat) (c : Int), 0 ≤ c → c < 100 → w1 c = k → ¬ w2 c = -3 ∧ w2 c ≤ k := by
  intro k
  induction k with
  | zero =>
    intro c c0 c1 hc
    have := (h2.2.1 c c0 c1).mpr ((h1.2.1 c c0 c1).mp hc)
    omega
  | succ k ih =>
    intro c c0 c1 hc
    obtain ⟨s, s0, s1, s2, s3⟩ := h1.2.2.2 c c0 c1 (by omega)
    have b := nbr_b c0 c1 s2
    obtain ⟨s', t0, t1, t2⟩ := nbr_s c0 c1 s0 s1 s2
    have i := ih (nbr c s) b.1 b.2.1 (by omega)
    have hW : ¬ W c := by
      have := h1.1 c c0 c1
      rcases this with q | q
      · omega
      · exact q.2.2
    have := h2.2.2.1 (nbr c s) s' c b.1 b.2.1 t0 t1 t2 (by omega) i.1 hW
    omega
theorem way_eq {W : Int → Prop} {a : Int} {w1 w2 : Int → Int} (h1 : isWay W a w1) (h2 : isWay W a w2) {c : Int} (c0 : 0 ≤ c) (c1 : c < 100) : w1 c = w2 c := by
  have b1 := h1.1 c c0 c1
  have b2 := h2.1 c c0 c1
  by_cases q1 : w1 c = -3
  · by_cases q2 : w2 c = -3
    · rw [q1, q2]
    · have := way_le h2 h1 (w2 c).toNat c c0 c1 (by omega)
      exact absurd q1 this.1
  · have e1 := way_le h1 h2 (w1 c).toNat c c0 c1 (by omega)
    have e2 := way_le h2 h1 (w2 c).toNat c c0 c1 (by omega)
    omega
theorem wayS_of {N : Int → Int} {a : Int} {w : Int → Int} (h : isWay (wall N) a w) : isWay (wall N) a (wayS N a) := Classical.epsilon_spec (p := fun w => isWay (wall N) a w) ⟨w, h⟩
theorem wayS_eq {N : Int → Int} {a : Int} {w : Int → Int} (h : isWay (wall N) a w) {c : Int} (c0 : 0 ≤ c) (c1 : c < 100) : w c = wayS N a c := way_eq h (wayS_of h) c0 c1
/-- so many holes, one pigeon more -/
theorem pigeon : ∀ (n : Nat) (f : Nat → Nat), (∀ i, i ≤ n → f i < n) → ∃ i j, i < j ∧ j ≤ n ∧ f i = f j := by
  intro n
  induction n with
  | zero => intro f h; exact absurd (h 0 (by omega)) (by omega)
  | succ n ih =>
    intro f h
    by_cases hx : ∃ i, i ≤ n ∧ f i = f (n + 1)
    · obtain ⟨i, h1, h2⟩ := hx
      exact ⟨i, n + 1, by omega, by omega, h2⟩
    · obtain ⟨i, j, h1, h2, h3⟩ := ih (fun i => if f (n + 1) < f i then f i - 1 else f i) (fun i hi => by
        have a1 := h i (by omega)
        have a2 := h (n + 1) (by omega)
        have a3 : ¬ f i = f (n + 1) := fun q => hx ⟨i, hi, q⟩
        split <;> omega)
      refine ⟨i, j, h1, by omega, ?_⟩
      have a1 : ¬ f i = f (n + 1) := fun q => hx ⟨i, by omega, q⟩
      have a2 : ¬ f j = f (n + 1) := fun q => hx ⟨j, by omega, q⟩
      split at h3 <;> split at h3 <;> omega
theorem inj_le {q : Int → Int} {t : Int} (hb : ∀ i, 0 ≤ i → i < t → 0 ≤ q i ∧ q i < 100) (hi : ∀ i j, 0 ≤ i → i < j → j < t → ¬ q i = q j) : t ≤ 100 := by
  by_cases h : t ≤ 100
  · exact h
  · obtain ⟨i, j, h1, h2, h3⟩ := pigeon 100 (fun i => (q i).toNat) (fun i hi => by
      have := hb i (by omega) (by omega)
      show (q i).toNat < 100
      omega)
    have b1 := hb i (by omega) (by omega)
    have b2 := hb j (by omega) (by omega)
    exact absurd (show q i = q j by omega) (hi i j (by omega) (by omega) (by omega))
/-- the state of a search: head k, side s, t found; w: steps, q: the row -/
def BI (W : Int → Prop) (a k s t : Int) (w q : Int → Int) : Prop :=
  ((0 ≤ k ∧ 0 ≤ s ∧ s ≤ 4 ∧ 1 ≤ t ∧ k ≤ t) ∧ (0 ≤ a ∧ a < 100) ∧ ¬ W a) ∧
  (∀ c, 0 ≤ c → c < 100 → w c = -3 ∨ (0 ≤ w c ∧ ¬ W c)) ∧
  (∀ i, 0 ≤ i → i < t → (0 ≤ q i ∧ q i < 100) ∧ 0 ≤ w (q i) ∧ w (q i) ≤ i) ∧
  (∀ i j, 0 ≤ i → i < j → j < t → ¬ q i = q j ∧ w (q i) ≤ w (q j)) ∧
  (∀ c, 0 ≤ c → c < 100 → ¬ w c = -3 → ∃ i, 0 ≤ i ∧ i < t ∧ q i = c) ∧
  (k < t → ∀ j, 0 ≤ j → j < t → w (q j) ≤ w (q k) + 1) ∧
  (∀ i s', 0 ≤ i → i < t → 0 ≤ s' → s' < 4 → (i < k ∨ (i = k ∧ s' < s)) → ¬ nbr (q i) s' = -3 → ¬ W (nbr (q i) s') → ¬ w (nbr (q i) s') = -3 ∧ w (nbr (q i) s') ≤ w (q i) + 1) ∧
  (∀ c, 0 ≤ c → c < 100 → 0 < w c → ∃ s, 0 ≤ s ∧ s < 4 ∧ ¬ nbr c s = -3 ∧ w (nbr c s) = w c - 1) ∧
  (∀ c, 0 ≤ c → c < 100 → (w c = 0 ↔ c = a))
section BF
variable {W : Int → Prop} {a k s t : Int} {w q : Int → Int}
theorem BI.t_le (h : BI W a k s t w q) : t ≤ 100 := inj_le (fun i h0 h1 => (h.2.2.1 i h0 h1).1) (fun i j h0 h1 h2 => (h.2.2.2.1 i j h0 h1 h2).1)
theorem up_s {g : Int → Int} {i x : Int} : up g i x i = x := if_pos rfl
theorem up_n {g : Int → Int} {i j x : Int} (h : ¬ j = i) : up g i x j = g j := if_neg h
theorem BI.old (h : BI W a k s t w q) (hk : k < t) (hs : s < 4) (hc : nbr (q k) s = -3 ∨ ¬ w (nbr (q k) s) = -3 ∨ W (nbr (q k) s)) : BI W a k (s + 1) t w q := by
  obtain ⟨⟨a0, a1, a2⟩, h1, h2, h3, h4, h5, h6, h7, h8⟩ := h
  refine ⟨⟨by omega, a1, a2⟩, h1, h2, h3, h4, h5, fun i s' i0 i1 s0 s1 hi hn hW => ?_, h7, h8⟩
  by_cases he : i = k ∧ s' = s
  · rw [he.1, he.2] at hn hW ⊢
    rcases hc with c | c | c
    · exact absurd c hn
    · refine ⟨c, ?_⟩
      have qk := h2 k (by omega) hk
      have nb := nbr_b qk.1.1 qk.1.2 hn
      obtain ⟨j, j0, j1, j2⟩ := h4 _ nb.1 nb.2.1 c
      rw [← j2]
      exact h5 hk j j0 j1
    · exact absurd c hW
  · exact h6 i s' i0 i1 s0 s1 (by omega) hn hW
theorem BI.new (h : BI W a k s t w q) (hk : k < t) (hs : s < 4) (hn : ¬ nbr (q k) s = -3) (hw : w (nbr (q k) s) = -3) (hW : ¬ W (nbr (q k) s)) : BI W a k (s + 1) (t + 1) (up w (nbr (q k) s) (w (q k) + 1)) (up q t (nbr (q k) s)) := by
  obtain ⟨⟨a0, a1, a2⟩, h1, h2, h3, h4, h5, h6, h7, h8⟩ := h
  have qk := h2 k (by omega) hk
  have nb := nbr_b qk.1.1 qk.1.2 hn
  have hne : ∀ i, 0 ≤ i → i < t → ¬ q i = nbr (q k) s := fun i i0 i1 e => by
    have := (h2 i i0 i1).2.1
    rw [e, hw] at this
    omega
  have wo : ∀ i, 0 ≤ i → i < t → up w (nbr (q k) s) (w (q k) + 1) (q i) = w (q i) := fun i i0 i1 => up_n (hne i i0 i1)
  have qo : ∀ i, i < t → up q t (nbr (q k) s) i = q i := fun i i1 => up_n (by omega)
  refine ⟨⟨by omega, a1, a2⟩, ?_, ?_, ?_, ?_, ?_, ?_, ?_, ?_⟩
  · intro c c0 c1
    by_cases hc : c = nbr (q k) s
    · rw [hc, up_s]
      exact Or.inr ⟨by omega, hW⟩
    · rw [up_n hc]
      exact h1 c c0 c1
  · intro i i0 i1
    by_cases hi : i = t
    · rw [hi, up_s, up_s]
      exact ⟨⟨nb.1, nb.2.1⟩, by omega, by omega⟩
    · rw [qo i (by omega), wo i i0 (by omega)]
      exact h2 i i0 (by omega)
  · intro i j i0 ij jt
    by_cases hj : j = t
    · rw [hj, up_s, up_s, qo i (by omega), wo i i0 (by omega)]
      exact ⟨hne i i0 (by omega), h5 hk i i0 (by omega)⟩
    · rw [qo i (by omega), qo j (by omega), wo i i0 (by omega), wo j (by omega) (by omega)]
      exact h3 i j i0 ij (by omega)
  · intro c c0 c1 hc
    by_cases he : c = nbr (q k) s
    · exact ⟨t, by omega, by omega, by rw [up_s, he]⟩
    · rw [up_n he] at hc
      obtain ⟨i, i0, i1, i2⟩ := h4 c c0 c1 hc
      exact ⟨i, i0, by omega, by rw [qo i i1]; exact i2⟩
  · intro _ j j0 j1
    rw [qo k hk, wo k (by omega) hk]
    by_cases hj : j = t
    · rw [hj, up_s, up_s]
      omega
    · rw [qo j (by omega), wo j j0 (by omega)]
      exact h5 hk j j0 (by omega)
  · intro i s' i0 i1 s0 s1 hi hn' hW'
    rw [qo i (by omega)] at hn' hW' ⊢
    rw [wo i i0 (by omega)]
    by_cases he : nbr (q i) s' = nbr (q k) s
    · rw [he, up_s]
      refine ⟨by omega, ?_⟩
      by_cases hik : i = k
      · rw [hik]; omega
      · have := h6 i s' i0 (by omega) s0 s1 (by omega) hn' hW'
        rw [he] at this
        exact absurd hw this.1
    · rw [up_n he]
      by_cases he2 : i = k ∧ s' = s
      · rw [he2.1, he2.2] at he
        exact absurd rfl he
      · exact h6 i s' i0 (by omega) s0 s1 (by omega) hn' hW'
  · intro c c0 c1 hc
    by_cases he : c = nbr (q k) s
    · rw [he] at hc ⊢
      rw [up_s] at hc ⊢
      obtain ⟨s', t0, t1, t2⟩ := nbr_s qk.1.1 qk.1.2 (by omega) hs hn
      refine ⟨s', t0, t1, by rw [t2]; omega, ?_⟩
      rw [t2, wo k (by omega) hk]
      omega
    · rw [up_n he] at hc ⊢
      obtain ⟨s', t0, t1, t2, t3⟩ := h7 c c0 c1 hc
      refine ⟨s', t0, t1, t2, ?_⟩
      rw [up_n (fun e => by rw [e, hw] at t3; omega)]
      exact t3
  · intro c c0 c1
    by_cases he : c = nbr (q k) s
    · rw [he, up_s]
      refine ⟨fun e => by omega, fun e => ?_⟩
      have := (h8 _ nb.1 nb.2.1).mpr e
      omega
    · rw [up_n he]
      exact h8 c c0 c1
theorem BI.next (h : BI W a k 4 t w q) (hk : k < t) : BI W a (k + 1) 0 t w q := by
  obtain ⟨⟨a0, a1, a2⟩, h1, h2, h3, h4, h5, h6, h7, h8⟩ := h
  refine ⟨⟨by omega, a1, a2⟩, h1, h2, h3, h4, fun hk2 j j0 j1 => ?_, fun i s' i0 i1 s0 s1 hi hn hW => h6 i s' i0 i1 s0 s1 (by omega) hn hW, h7, h8⟩
  have := h5 hk j j0 j1
  have := (h3 k (k + 1) (by omega) (by omega) hk2).2
  omega
theorem BI.done (h : BI W a t 0 t w q) : isWay W a w := by
  have ht := h.t_le
  obtain ⟨⟨a0, a1, a2⟩, h1, h2, h3, h4, h5, h6, h7, h8⟩ := h
  refine ⟨fun c c0 c1 => ?_, fun c c0 c1 => ?_, fun c s n c0 c1 s0 s1 hn hn3 hc hW => ?_, h7⟩
  · rcases h1 c c0 c1 with e | e
    · exact Or.inl e
    · obtain ⟨i, i0, i1, i2⟩ := h4 c c0 c1 (by omega)
      have := (h2 i i0 i1).2.2
      rw [i2] at this
      exact Or.inr ⟨e.1, by omega, e.2⟩
  · rw [h8 c c0 c1]
    exact ⟨fun e => ⟨e, a2⟩, fun e => e.1⟩
  · obtain ⟨i, i0, i1, i2⟩ := h4 c c0 c1 hc
    have := h6 i s i0 i1 s0 s1 (Or.inl i1) (by rw [i2, hn]; exact hn3) (by rw [i2, hn]; exact hW)
    rw [i2, hn] at this
    exact this
theorem BI.start (h0 : 0 ≤ a) (h1 : a < 100) (hW : ¬ W a) (hq : q 0 = a) (hw : ∀ c, 0 ≤ c → c < 100 → w c = if c = a then 0 else -3) : BI W a 0 0 1 w q := by
  refine ⟨⟨by omega, ⟨h0, h1⟩, hW⟩, fun c c0 c1 => ?_, fun i i0 i1 => ?_, fun i j _ _ _ => by omega, fun c c0 c1 hc => ?_, fun _ j j0 j1 => ?_, fun i s' _ _ _ _ hi => by omega, fun c c0 c1 hc => ?_, fun c c0 c1 => ?_⟩
  · rw [hw c c0 c1]
    by_cases e : c = a
    · rw [itp e, e]; exact Or.inr ⟨by omega, hW⟩
    · rw [itn e]; exact Or.inl rfl
  · have : i = 0 := by omega
    subst this
    rw [hq, hw a h0 h1, itp rfl]
    exact ⟨⟨h0, h1⟩, by omega, by omega⟩
  · rw [hw c c0 c1] at hc
    by_cases e : c = a
    · exact ⟨0, by omega, by omega, by rw [hq, e]⟩
    · rw [itn e] at hc; exact absurd rfl hc
  · have : j = 0 := by omega
    subst this
    omega
  · rw [hw c c0 c1] at hc
    by_cases e : c = a
    · rw [itp e] at hc; omega
    · rw [itn e] at hc; omega
  · rw [hw c c0 c1]
    by_cases e : c = a
    · rw [itp e]; exact ⟨fun _ => e, fun _ => rfl⟩
    · rw [itn e]; exact ⟨fun q => by omega, fun q => absurd q e⟩
theorem isWay_wall (hW : W a) (hw : ∀ c, 0 ≤ c → c < 100 → w c = -3) : isWay W a w := by
  refine ⟨fun c c0 c1 => Or.inl (hw c c0 c1), fun c c0 c1 => ?_, fun c s n c0 c1 _ _ _ _ hc => absurd (hw c c0 c1) hc, fun c c0 c1 hc => ?_⟩
  · rw [hw c c0 c1]
    exact ⟨fun e => by omega, fun e => absurd hW e.2⟩
  · rw [hw c c0 c1] at hc
    omega
end BF
