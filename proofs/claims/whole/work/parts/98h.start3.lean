theorem zenl_eq : ∀ i, i < 32 → zenl[i]? = some [.ref (10100 + ztx.getD i 0), .int (zbi.getD i 0), .int (zco.getD i 0)] := by decide +kernel
theorem zenl_len : zenl.length = 32 := by decide +kernel
theorem zbyl_len : zbyl.length = 56 := by decide +kernel
theorem ztx_lt : ∀ i, i < 32 → ztx.getD i 0 < 56 := by decide +kernel
theorem zstl_eq : ∀ q ∈ zstl, ∃ j, j < 56 ∧ q = (zso.getD j "", zsx.getD j 0, 10100 + j) := by
  have h : zstl.all (fun q => decide (q.2.2 - 10100 < 56 ∧ q = (zso.getD (q.2.2 - 10100) "", zsx.getD (q.2.2 - 10100) 0, 10100 + (q.2.2 - 10100)))) = true := by decide +kernel
  intro q hq
  have := List.all_eq_true.mp h q hq
  simp only [decide_eq_true_eq] at this
  exact ⟨q.2.2 - 10100, this.1, this.2⟩
section S3
variable {args : Array Value} {s : State} {A : Nat → Prop} {adE adK adV : Nat → Nat} {tv ta tf b L : Nat} {xs : Nat → Int32} {v0 : Value}
theorem zad_E {i : Nat} (hi : i < 32) : zad adE adK adV tv ta tf b (10000 + i) = adE i := by
  unfold zad
  rw [if_neg (by omega), if_pos (by omega), Nat.add_sub_cancel_left]
theorem zad_K {i : Nat} (hi : i < 56) : zad adE adK adV tv ta tf b (10100 + i) = adK i := by
  unfold zad
  rw [if_neg (by omega), if_neg (by omega), if_pos (by omega), Nat.add_sub_cancel_left]
theorem zad_V {i : Nat} (hi : i < 56) : zad adE adK adV tv ta tf b (10200 + i) = adV i := by
  unfold zad
  rw [if_neg (by omega), if_neg (by omega), if_neg (by omega), if_pos (by omega), Nat.add_sub_cancel_left]
theorem zof_spec {k a b v} (h : zof k a b = some v) : (∃ i, i < 32 ∧ k = 10000 + i ∧ a = 40 ∧ ((b = 0 ∧ v = .ref (10100 + ztx.getD i 0)) ∨ (b = 1 ∧ v = .int (zbi.getD i 0)) ∨ (b = 2 ∧ v = .int (zco.getD i 0)))) ∨ (∃ i, i < 56 ∧ k = 10100 + i ∧ a = 41 ∧ ((b = 0 ∧ v = .ref (10200 + i)) ∨ (b = 1 ∧ v = .int 0))) := by
  unfold zof at h
  split at h
  · rename_i hk
    split at h
    · rename_i ha
      rw [Option.bind_eq_some_iff] at h
      obtain ⟨l, hl, hb⟩ := h
      have hi : k - 10000 < 32 := by
        have := (List.getElem?_eq_some_iff.mp hl).1
        rw [zenl_len] at this
        exact this
      rw [zenl_eq _ hi] at hl
      cases hl
      refine Or.inl ⟨k - 10000, hi, by omega, ha, ?_⟩
      match b, hb with
      | 0, hb => cases hb; exact Or.inl ⟨rfl, rfl⟩
      | 1, hb => cases hb; exact Or.inr (Or.inl ⟨rfl, rfl⟩)
      | 2, hb => cases hb; exact Or.inr (Or.inr ⟨rfl, rfl⟩)
      | b + 3, hb => simp at hb
    · cases h
  · split at h
    · rename_i hk
      split at h
      · rename_i ha
        refine Or.inr ⟨k - 10100, by omega, by omega, ha, ?_⟩
        split at h
        · rename_i hb
          cases h
          exact Or.inl ⟨hb, by rw [show k + 100 = 10200 + (k - 10100) by omega]⟩
        · split at h
          · rename_i hb
            cases h
            exact Or.inr ⟨hb, rfl⟩
          · cases h
      · cases h
    · cases h
theorem zisE_spec {x : Nat} {ys : List Int32} (h : zisE (zE0 ys v0) x = true) : ∃ i, i < 32 ∧ x = 10000 + i := by
  unfold zisE at h
  simp only [Bool.and_eq_true, decide_eq_true_eq] at h
  obtain ⟨v, hv⟩ := Option.isSome_iff_exists.mp h.2
  rcases zof_spec hv with ⟨i, h1, h2, -⟩ | ⟨i, h1, h2, h3, -⟩
  · exact ⟨i, h1, h2⟩
  · omega
theorem zisS_spec {x : Nat} {ys : List Int32} (h : zisS (zE0 ys v0) x = true) : ∃ i, i < 56 ∧ x = 10100 + i := by
  unfold zisS at h
  simp only [Bool.and_eq_true, decide_eq_true_eq] at h
  obtain ⟨v, hv⟩ := Option.isSome_iff_exists.mp h.2
  rcases zof_spec hv with ⟨i, h1, h2, h3, -⟩ | ⟨i, h1, h2, -⟩
  · omega
  · exact ⟨i, h1, h2⟩
set_option maxRecDepth 4000 in
theorem zs_G (h : zGv.before args s = true) (hts : ∀ w ∈ lw_tbl, w.before args s = true) (hA : ∀ a : Nat, a < s.heap.size → ¬ A a)
    (hE : ∀ i, i < 32 → (zse i).eval args s none [] s = some (.ref (adE i)) ∧ va_O "PeaceRing$Word" (adE i) A s s.heap) (hEi : ∀ i j, i < 32 → j < 32 → adE i = adE j → i = j)
    (hS : ∀ i, i < 56 → (zss i).eval args s none [] s = some (.ref (adK i)) ∧ va_O "java/lang/String" (adK i) A s s.heap ∧ va_OF "java/lang/String" "coder" "B" (.int 0) (adK i) A s s.heap ∧ va_OF "java/lang/String" "value" "[B" (.ref (adV i)) (adK i) A s s.heap ∧ va_T .byte (adV i) (zbyl.getD i []).length (fun j => .int ((zbyl.getD i []).getD j 0)) A s s.heap)
    (hV : (Term.static "PeaceRing$Word" "$VALUES" "[LPeaceRing$Word;").eval args s none [] s = some (.ref tv))
    (hB : (Term.static "PeaceRing$Host" "ABOVE" "[I").eval args s none [] s = some (.ref ta)) (hBT : va_T .int ta 7 (fun j => .int (([-1, 0, 1, 2, 0, 0, 5] : List Int32).getD j 0)) A s s.heap)
    (hv0 : (Term.static "jdk/internal/util/Preconditions" "SIOOBE_FORMATTER" "Ljava/util/function/BiFunction;").eval args s none [] s = some (zv (zad adE adK adV tv ta tf b) v0)) (hv1 : zfree 0 10000 v0 = true)
    (hX : va_T .int b L (fun j => .int (((List.range L).map xs).getD j 0)) A s s.heap) :
    zG (zE0 ((List.range L).map xs) v0) zF zN (zad adE adK adV tv ta tf b) A s s.heap := by
  have hst : ∀ (a : Nat) (v : Value), (zstv v0)[a]? = some v → zfree 0 10000 v = true ∧ ∃ C n d, zsnl[a]? = some (C, n, d) ∧ (Term.static C n d).eval args s none [] s = some (zv (zad adE adK adV tv ta tf b) v) := by
    intro a v hv
    have hEn : ∀ i, i < 32 → (zse i).eval args s none [] s = some (zv (zad adE adK adV tv ta tf b) (.ref (10000 + i))) := fun i hi => by
      rw [(hE i hi).1]
      show _ = some (Value.ref (zad adE adK adV tv ta tf b (10000 + i)))
      rw [zad_E hi]
    match a, hv with
    | 0, hv => cases hv; exact ⟨rfl, _, _, _, rfl, hB⟩
    | 1, hv => cases hv; exact ⟨rfl, _, _, _, rfl, hEn 0 (by decide)⟩
    | 2, hv => cases hv; exact ⟨rfl, _, _, _, rfl, hEn 29 (by decide)⟩
    | 3, hv => cases hv; exact ⟨rfl, _, _, _, rfl, hEn 2 (by decide)⟩
    | 4, hv => cases hv; exact ⟨rfl, _, _, _, rfl, hEn 1 (by decide)⟩
    | 5, hv => cases hv; exact ⟨rfl, _, _, _, rfl, hEn 3 (by decide)⟩
    | 6, hv => cases hv; exact ⟨rfl, _, _, _, rfl, hEn 7 (by decide)⟩
    | 7, hv => cases hv; exact ⟨rfl, _, _, _, rfl, hEn 8 (by decide)⟩
    | 8, hv => cases hv; exact ⟨rfl, _, _, _, rfl, hEn 4 (by decide)⟩
    | 9, hv => cases hv; exact ⟨rfl, _, _, _, rfl, hEn 5 (by decide)⟩
    | 10, hv => cases hv; exact ⟨rfl, _, _, _, rfl, hEn 6 (by decide)⟩
    | 11, hv => cases hv; exact ⟨rfl, _, _, _, rfl, hEn 12 (by decide)⟩
    | 12, hv => cases hv; exact ⟨rfl, _, _, _, rfl, hEn 10 (by decide)⟩
    | 13, hv => cases hv; exact ⟨rfl, _, _, _, rfl, hEn 11 (by decide)⟩
    | 14, hv => cases hv; exact ⟨rfl, _, _, _, rfl, hEn 9 (by decide)⟩
    | 15, hv => cases hv; exact ⟨rfl, _, _, _, rfl, hEn 13 (by decide)⟩
    | 16, hv => cases hv; exact ⟨rfl, _, _, _, rfl, hEn 14 (by decide)⟩
    | 17, hv => cases hv; exact ⟨rfl, _, _, _, rfl, hEn 30 (by decide)⟩
    | 18, hv => cases hv; exact ⟨rfl, _, _, _, rfl, hEn 31 (by decide)⟩
    | 19, hv => cases hv; exact ⟨rfl, _, _, _, rfl, hEn 15 (by decide)⟩
    | 20, hv => cases hv; exact ⟨rfl, _, _, _, rfl, hV⟩
    | 21, hv => cases hv; exact ⟨rfl, _, _, _, rfl, va_eqt (zg_46 h)⟩
    | 22, hv => cases hv; exact ⟨hv1, _, _, _, rfl, hv0⟩
    | a + 23, hv => simp [zstv] at hv
  refine ⟨fun a v hv => ?_, fun k a b' v hv => ?_, fun k t ys hk => ?_, fun x y hx hy hxy => ?_, fun x hx => ?_, fun x hx => ?_, fun own i x hx => ?_, fun w hw => ?_⟩
  · obtain ⟨f1, C, n, d, f2, f3⟩ := hst a v hv
    refine ⟨f1, C, n, d, f2, ?_⟩
    have ha : a < 23 := (List.getElem?_eq_some_iff.mp hv).1
    have := List.all_eq_true.mp zlw_ok a (List.mem_range.mpr ha)
    rw [f2] at this
    simp only [Bool.and_eq_true, decide_eq_true_eq] at this
    exact va_Zof (hts _ (List.mem_of_getElem? this.1)) (hts _ (List.mem_of_getElem? this.2)) f3 hA
  · rcases zof_spec hv with ⟨i, h1, rfl, rfl, h2⟩ | ⟨i, h1, rfl, rfl, h2⟩
    · refine ⟨by omega, ?_⟩
      rw [zad_E h1]
      rcases h2 with ⟨rfl, rfl⟩ | ⟨rfl, rfl⟩ | ⟨rfl, rfl⟩
      · refine ⟨by simp [zfree]; omega, _, _, _, rfl, ?_⟩
        show va_OF _ _ _ (Value.ref (zad adE adK adV tv ta tf b (10100 + ztx.getD i 0))) _ _ _ _
        rw [zad_K (ztx_lt i h1)]
        exact vk_OFof (hE i h1).1 (va_eqv (zh_tx h i h1) (hS _ (ztx_lt i h1)).1) hA
      · exact ⟨rfl, _, _, _, rfl, vk_OFof (hE i h1).1 (va_eqt (zh_bi h i h1)) hA⟩
      · exact ⟨rfl, _, _, _, rfl, vk_OFof (hE i h1).1 (va_eqt (zh_co h i h1)) hA⟩
    · refine ⟨by omega, ?_⟩
      rw [zad_K h1]
      rcases h2 with ⟨rfl, rfl⟩ | ⟨rfl, rfl⟩
      · refine ⟨by simp [zfree]; omega, _, _, _, rfl, ?_⟩
        show va_OF _ _ _ (Value.ref (zad adE adK adV tv ta tf b (10200 + i))) _ _ _ _
        rw [zad_V h1]
        exact (hS i h1).2.2.2.1
      · exact ⟨rfl, _, _, _, rfl, (hS i h1).2.2.1⟩
  · have hk' : zsa ((List.range L).map xs) k = some (t, ys) := hk
    unfold zsa at hk'
    split at hk'
    · rename_i hk1
      subst hk1
      cases hk'
      refine ⟨by omega, Or.inl rfl, ?_⟩
      have : zad adE adK adV tv ta tf b 10303 = b := by simp [zad]
      rw [this]
      have e9 : ((List.range L).map xs).length = L := by simp
      rw [e9]
      exact hX
    · split at hk'
      · rename_i hk1
        subst hk1
        cases hk'
        refine ⟨by omega, Or.inl rfl, ?_⟩
        have : zad adE adK adV tv ta tf b 10302 = ta := by simp [zad]
        rw [this]
        exact hBT
      · split at hk'
        · rename_i hk1
          rw [Option.map_eq_some_iff] at hk'
          obtain ⟨l, hl, hl2⟩ := hk'
          cases hl2
          have hi : k - 10200 < 56 := by
            have := (List.getElem?_eq_some_iff.mp hl).1
            rw [zbyl_len] at this
            exact this
          refine ⟨by omega, Or.inr rfl, ?_⟩
          have e1 : zad adE adK adV tv ta tf b k = adV (k - 10200) := by
            have := zad_V (adE := adE) (adK := adK) (adV := adV) (tv := tv) (ta := ta) (tf := tf) (b := b) hi
            rw [show 10200 + (k - 10200) = k by omega] at this
            exact this
          have e2 : zbyl.getD (k - 10200) [] = ys := by rw [List.getD_eq_getElem?_getD, hl]; rfl
          have := (hS _ hi).2.2.2.2
          rw [e2] at this
          rw [e1]
          exact this
        · cases hk'
  · obtain ⟨i, hi, rfl⟩ := zisE_spec hx
    obtain ⟨j, hj, rfl⟩ := zisE_spec hy
    rw [zad_E hi, zad_E hj] at hxy
    rw [hEi i j hi hj hxy]
  · obtain ⟨i, hi, rfl⟩ := zisE_spec hx
    rw [zad_E hi]
    exact (hE i hi).2
  · obtain ⟨i, hi, rfl⟩ := zisS_spec hx
    rw [zad_K hi]
    exact (hS i hi).2.1
  · have hx' : (zstl.find? (fun q => decide (q.1 = own ∧ q.2.1 = i))).map (fun q => q.2.2) = some x := hx
    rw [Option.map_eq_some_iff] at hx'
    obtain ⟨q, hq, rfl⟩ := hx'
    have h1 := List.find?_some hq
    simp only [decide_eq_true_eq] at h1
    obtain ⟨j, hj, rfl⟩ := zstl_eq q (List.mem_of_find?_eq_some hq)
    obtain ⟨rfl, rfl⟩ := h1
    refine ⟨by simp; omega, zst_.getD j "", ?_⟩
    show vk_R _ _ _ (zad adE adK adV tv ta tf b (10100 + j)) s
    rw [zad_K hj]
    have := List.all_eq_true.mp zsw_ok j (List.mem_range.mpr hj)
    simp only [decide_eq_true_eq] at this
    exact vk_R.of (hts _ (List.mem_of_getElem? this)) (hS j hj).1
  · have h1 := (List.mem_filter.mp hw)
    refine va_Nw.of ?_ (hts w h1.1)
    have h2 := h1.2
    cases w <;> first | rfl | cases h2
end S3
