/-! The constructors: a run that asks nothing of the script. -/
section MO
variable {ys : List Int32} {v0 : Value}
/-- what is given, less the script and one static -/
def zEc : zS := (fun a => if a = 22 then none else (zstv .null)[a]?, zof, fun k => if k = 10303 then some (7, []) else zsa [] k, zdf)
theorem zst_mono {a : Nat} {v : Value} (h : zEc.1 a = some v) : (zE0 ys v0).1 a = some v := by
  have h' : (if a = 22 then none else (zstv .null)[a]?) = some v := h
  by_cases q : a = 22
  · rw [if_pos q] at h'; cases h'
  · rw [if_neg q] at h'
    show (zstv v0)[a]? = some v
    rw [← h']
    match a, q with
    | 0, _ => rfl
    | 1, _ => rfl
    | 2, _ => rfl
    | 3, _ => rfl
    | 4, _ => rfl
    | 5, _ => rfl
    | 6, _ => rfl
    | 7, _ => rfl
    | 8, _ => rfl
    | 9, _ => rfl
    | 10, _ => rfl
    | 11, _ => rfl
    | 12, _ => rfl
    | 13, _ => rfl
    | 14, _ => rfl
    | 15, _ => rfl
    | 16, _ => rfl
    | 17, _ => rfl
    | 18, _ => rfl
    | 19, _ => rfl
    | 20, _ => rfl
    | 21, _ => rfl
    | 22, q => exact absurd rfl q
    | n + 23, _ => rfl
theorem zsa_k {k : Nat} (h : ¬ k = 10303) : zsa ys k = zsa [] k := by
  unfold zsa
  rw [if_neg h, if_neg h]
theorem zarr_mono {h : zH} {k t : Nat} {xs : List Int32} (q : zarr zEc h k = some (t, xs)) (ht : t ≤ 1) : zarr (zE0 ys v0) h k = some (t, xs) := by
  unfold zarr at q ⊢
  by_cases z : 10000 ≤ k
  · rw [if_pos z] at q ⊢
    have q' : (if k = 10303 then some (7, []) else zsa [] k) = some (t, xs) := q
    by_cases y : k = 10303
    · rw [if_pos y] at q'
      cases q'
      exact absurd ht (by decide)
    · rw [if_neg y] at q'
      show zsa ys k = _
      rw [zsa_k y]
      exact q'
  · rw [if_neg z] at q ⊢
    exact q
theorem zarr_none {h : zH} {k : Nat} (q : zarr zEc h k = none) : zarr (zE0 ys v0) h k = none := by
  unfold zarr at q ⊢
  by_cases z : 10000 ≤ k
  · rw [if_pos z] at q ⊢
    have q' : (if k = 10303 then some (7, []) else zsa [] k) = none := q
    by_cases y : k = 10303
    · rw [if_pos y] at q'
      cases q'
    · rw [if_neg y] at q'
      show zsa ys k = _
      rw [zsa_k y]
      exact q'
  · rw [if_neg z] at q ⊢
    exact q
theorem zald_mono {t : Nat} {st : List Value} {h : zH} {q : List Value × zH} (ht : t ≤ 1) (hh : zald zEc t st h = some q) : zald (zE0 ys v0) t st h = some q := by
  unfold zald at hh ⊢
  split at hh
  · rename_i i k st'
    split at hh
    · rename_i t' xs he
      split at hh
      · rename_i e1
        subst e1
        rw [zarr_mono he ht]
        dsimp only
        rw [if_pos rfl]
        exact hh
      · cases hh
    · cases hh
  · cases hh
theorem zalen_mono {st : List Value} {h : zH} {q : List Value × zH} (hh : zalen zEc st h = some q) : zalen (zE0 ys v0) st h = some q := by
  unfold zalen at hh ⊢
  split at hh
  · rename_i k st'
    split at hh
    · rename_i t' xs he
      split at hh
      · rename_i e1
        rw [zarr_mono he e1]
        dsimp only
        rw [if_pos e1]
        exact hh
      · cases hh
    · rename_i he
      rw [zarr_none he]
      exact hh
  · cases hh
theorem zhp_mono {ins : Instr} {a b : Nat} {c : Int} {L st : List Value} {h : zH} {q : List Value × zH} (hh : zhp zEc ins a b c L st h = some q) : zhp (zE0 ys v0) ins a b c L st h = some q := by
  unfold zhp at hh ⊢
  split at hh
  · exact hh
  · exact hh
  · rename_i a'
    cases hz : zEc.1 a with
    | none => rw [hz] at hh; cases hh
    | some v =>
      rw [hz] at hh
      rw [zst_mono (ys := ys) (v0 := v0) hz]
      exact hh
  · exact zald_mono (by decide) hh
  · exact zald_mono (by decide) hh
  · exact hh
  · exact hh
  · exact hh
  · exact hh
  · exact zalen_mono hh
  · exact hh
  · exact hh
  · exact hh
  · exact hh
  · exact hh
  · exact hh
  · exact hh
  · exact hh
  · exact hh
  · exact hh
  · exact hh
  · exact hh
  · cases hh
theorem zx_mono {P : zP} {M : zM} : ∀ (n d mi pc : Nat) (L st : List Value) (h : zH) (r : Option Value × zH), zexec P M zEc n d mi pc L st h = some r → zexec P M (zE0 ys v0) n d mi pc L st h = some r := by
  have e1 : ∀ i s, zbr (zE0 ys v0) i s = zbr zEc i s := fun _ _ => rfl
  have e2 : ∀ i b c s h, zas (zE0 ys v0) i b c s h = zas zEc i b c s h := fun _ _ _ _ _ => rfl
  intro n
  induction n with
  | zero => intro d mi pc L st h r hs; cases hs
  | succ n ih =>
    intro d mi pc L st h r hs
    rw [zexec] at hs ⊢
    simp only [e1, e2]
    split at hs
    · cases hs
    · split at hs
      · split at hs
        · exact ih _ _ _ _ _ _ _ hs
        · cases hs
      · split at hs
        · exact ih _ _ _ _ _ _ _ hs
        · cases hs
      · split at hs
        · split at hs
          · exact ih _ _ _ _ _ _ _ hs
          · cases hs
        · cases hs
      · split at hs
        · split at hs
          · exact ih _ _ _ _ _ _ _ hs
          · cases hs
        · cases hs
      · split at hs
        · rename_i hz
          rw [zhp_mono hz]
          exact ih _ _ _ _ _ _ _ hs
        · cases hs
      · exact hs
      · split at hs
        · split at hs
          · rename_i hc
            split at hs
            · rename_i r1 h1 hcall
              have hcall' := ih _ _ _ _ _ _ _ hcall
              split at hs
              · rename_i hc2
                have hs' := ih _ _ _ _ _ _ _ hs
                simp only [hc, hcall', hc2, and_self, if_true]
                exact hs'
              · cases hs
            · cases hs
          · cases hs
        · cases hs
end MO
