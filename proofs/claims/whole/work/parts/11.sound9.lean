/-! Growth of the heap, a method's entry, a contract of a run. -/
theorem zh_grow {E : zS} {ins : Instr} {a b : Nat} {cI : Int} {L st st' : List Value} {h h' : zH} (hs : zhp E ins a b cI L st h = some (st', h')) : h.length ≤ h'.length ∧ zslots h ≤ zslots h' := by
  have eq : (h' = h ∨ ∃ k e e', h[k]? = some e ∧ h' = h.set k e' ∧ zsz e' = zsz e) → h.length ≤ h'.length ∧ zslots h ≤ zslots h' := fun hh => by
    obtain ⟨e1, e2⟩ := zh_same hh
    omega
  unfold zhp at hs
  split at hs
  case h_1 =>
    unfold zgetf at hs
    split at hs
    · split at hs
      · split at hs
        · split at hs
          · rw [Option.map_eq_some_iff] at hs
            obtain ⟨_, _, h2⟩ := hs
            cases h2
            exact eq (Or.inl rfl)
          · cases hs
        · cases hs
      · rw [Option.map_eq_some_iff] at hs
        obtain ⟨_, _, h2⟩ := hs
        cases h2
        exact eq (Or.inl rfl)
    · cases hs
  case h_2 => exact eq (zh_putf hs)
  case h_3 =>
    rw [Option.map_eq_some_iff] at hs
    obtain ⟨_, _, h2⟩ := hs
    cases h2
    exact eq (Or.inl rfl)
  case h_4 =>
    unfold zald at hs
    split at hs
    · split at hs
      · split at hs
        · rw [Option.map_eq_some_iff] at hs
          obtain ⟨_, _, h2⟩ := hs
          cases h2
          exact eq (Or.inl rfl)
        · cases hs
      · cases hs
    · cases hs
  case h_5 =>
    unfold zald at hs
    split at hs
    · split at hs
      · split at hs
        · rw [Option.map_eq_some_iff] at hs
          obtain ⟨_, _, h2⟩ := hs
          cases h2
          exact eq (Or.inl rfl)
        · cases hs
      · cases hs
    · cases hs
  case h_6 =>
    unfold zaald at hs
    split at hs
    · split at hs
      · split at hs
        · rw [Option.bind_eq_some_iff] at hs
          obtain ⟨_, _, h2⟩ := hs
          split at h2
          · cases h2
            exact eq (Or.inl rfl)
          · cases h2
        · cases hs
      · cases hs
    · cases hs
  case h_7 => exact eq (zh_ast hs)
  case h_8 => exact eq (zh_ast hs)
  case h_9 => exact eq (zh_aast hs)
  case h_10 =>
    unfold zalen at hs
    split at hs
    · split at hs
      · split at hs
        · cases hs
          exact eq (Or.inl rfl)
        · cases hs
      · split at hs
        · split at hs
          · cases hs
            exact eq (Or.inl rfl)
          · cases hs
        · cases hs
    · cases hs
  case h_11 =>
    unfold znew at hs
    split at hs
    · split at hs
      · cases hs; exact ⟨by simp, by rw [zslots_app]; omega⟩
      · cases hs
    · cases hs
  case h_12 =>
    unfold znewa at hs
    split at hs
    · split at hs
      · cases hs; exact ⟨by simp, by rw [zslots_app]; omega⟩
      · cases hs
    · cases hs
  case h_13 =>
    unfold znewa at hs
    split at hs
    · split at hs
      · cases hs; exact ⟨by simp, by rw [zslots_app]; omega⟩
      · cases hs
    · cases hs
  case h_14 =>
    unfold zanew at hs
    split at hs
    · split at hs
      · cases hs; exact ⟨by simp, by rw [zslots_app]; omega⟩
      · cases hs
    · cases hs
  case h_15 =>
    unfold zmulti at hs
    split at hs
    · split at hs
      · cases hs; exact ⟨by simp, by rw [zslots_app]; omega⟩
      · cases hs
    · cases hs
  case h_16 =>
    unfold zcast at hs
    split at hs
    · split at hs
      · split at hs
        · cases hs
          exact eq (Or.inl rfl)
        · cases hs
      · cases hs
    · cases hs
  case h_17 =>
    rw [Option.map_eq_some_iff] at hs
    obtain ⟨_, _, h2⟩ := hs
    cases h2
    exact eq (Or.inl rfl)
  case h_18 =>
    rw [Option.map_eq_some_iff] at hs
    obtain ⟨_, _, h2⟩ := hs
    cases h2
    exact eq (Or.inl rfl)
  case h_19 =>
    cases hs
    exact eq (Or.inl rfl)
  case h_20 =>
    unfold zinit0 at hs
    split at hs
    · split at hs
      · cases hs
        exact eq (Or.inl rfl)
      · cases hs
    · cases hs
  case h_21 => exact eq (zh_copy hs)
  case h_22 =>
    unfold zclone at hs
    split at hs
    · split at hs
      · split at hs
        · cases hs; exact ⟨by simp, by rw [zslots_app]; omega⟩
        · cases hs
      · cases hs
    · cases hs
  case h_23 => cases hs
theorem zrt_spec {ret : Option FieldType} {ins : Instr} {st : List Value} {h h' : zH} {r : Option Value} (hs : zrt ret ins st h = some (r, h')) : h' = h ∧ st = r.toList ∧ zrt ret ins r.toList h = some (r, h) ∧ zlen ins = 1 := by
  unfold zrt at hs
  split at hs
  · cases hs
    exact ⟨rfl, rfl, rfl, rfl⟩
  · split at hs
    · rename_i hn
      cases hs
      exact ⟨rfl, rfl, by simp [zrt, hn], rfl⟩
    · cases hs
  · split at hs
    · rename_i hn
      cases hs
      exact ⟨rfl, rfl, by simp [zrt, hn], rfl⟩
    · cases hs
  · cases hs
theorem z_mono {P : zP} {M : zM} {E : zS} : ∀ (n d mi pc : Nat) (L st : List Value) (h h' : zH) (r : Option Value), zexec P M E n d mi pc L st h = some (r, h') → h.length ≤ h'.length ∧ zslots h ≤ zslots h' := by
  intro n
  induction n with
  | zero => intro d mi pc L st h h' r hs; cases hs
  | succ n ih =>
    intro d mi pc L st h h' r hs
    rw [zexec] at hs
    split at hs
    · cases hs
    · split at hs
      · split at hs
        · exact ih _ _ _ _ _ _ _ _ hs
        · cases hs
      · split at hs
        · exact ih _ _ _ _ _ _ _ _ hs
        · cases hs
      · split at hs
        · split at hs
          · exact ih _ _ _ _ _ _ _ _ hs
          · cases hs
        · cases hs
      · split at hs
        · split at hs
          · exact ih _ _ _ _ _ _ _ _ hs
          · cases hs
        · cases hs
      · split at hs
        · rename_i st1 h1 hh
          have g1 := zh_grow hh
          have g2 := ih _ _ _ _ _ _ _ _ hs
          omega
        · cases hs
      · split at hs
        · obtain ⟨rfl, -⟩ := zrt_spec hs
          exact ⟨Nat.le_refl _, Nat.le_refl _⟩
        · cases hs
      · split at hs
        · split at hs
          · split at hs
            · rename_i r1 h1 hh
              split at hs
              · have g1 := ih _ _ _ _ _ _ _ _ hh
                have g2 := ih _ _ _ _ _ _ _ _ hs
                omega
              · cases hs
            · cases hs
          · cases hs
        · cases hs
theorem zargs_sl (ad : Nat → Nat) (as : List Value) : (lg_sl (as.map (zv ad))).length = (zargs as).length := by
  induction as with
  | nil => rfl
  | cons v r ih =>
    unfold lg_sl at ih ⊢
    simp only [List.map_cons, List.flatMap_cons, List.length_append, ih, zargs, zv_cat]
    split <;> simp <;> omega
theorem zargs_mem (ad : Nat → Nat) : ∀ (as : List Value) (j : Nat) (i : Nat) (v : Value), (zargs as)[i]? = some v → zun v = false → (j + i, zv ad v) ∈ lv_args j (as.map (zv ad)) := by
  intro as
  induction as with
  | nil => intro j i v h; simp [zargs] at h
  | cons w r ih =>
    intro j i v h hu
    simp only [List.map_cons, lv_args, zv_cat]
    unfold zargs at h
    split at h
    · rename_i hc
      rw [if_pos hc]
      match i, h with
      | 0, h =>
        simp at h
        subst h
        exact List.mem_cons_self
      | 1, h =>
        simp at h
        subst h
        simp [zun] at hu
      | i + 2, h =>
        simp only [List.getElem?_cons_succ] at h
        have := ih (j + 2) i v h hu
        rw [show j + (i + 2) = j + 2 + i by omega]
        exact List.mem_cons_of_mem _ this
    · rename_i hc
      rw [if_neg hc]
      match i, h with
      | 0, h =>
        simp at h
        subst h
        exact List.mem_cons_self
      | i + 1, h =>
        simp only [List.getElem?_cons_succ] at h
        have := ih (j + 1) i v h hu
        rw [show j + (i + 1) = j + 1 + i by omega]
        exact List.mem_cons_of_mem _ this
theorem z_entry {ad : Nat → Nat} {as : List Value} {n : Nat} (hn : (zargs as).length ≤ n) : zLv ad ((lg_sl (as.map (zv ad)) ++ List.replicate (n - (lg_sl (as.map (zv ad))).length) Slot.unset).toArray) n (zent n as) := by
  have h0 := lv_entry (as.map (zv ad)) (n := n) (by rw [zargs_sl]; exact hn)
  refine ⟨⟨h0.1, h0.2.1, fun q hq => ?_⟩, by simp [zent]; omega⟩
  obtain ⟨i, w⟩ := q
  obtain ⟨v, h1, h2, rfl⟩ := zlv_mem.mp hq
  unfold zent at h1
  by_cases hi : i < (zargs as).length
  · rw [List.getElem?_append_left hi] at h1
    have := zargs_mem ad as 0 i v h1 h2
    rw [Nat.zero_add] at this
    exact h0.2.2 _ this
  · rw [List.getElem?_append_right (by omega), List.getElem?_replicate] at h1
    split at h1
    · cases h1
      simp [zun] at h2
    · cases h1
/-- the room of a call that may go d calls deeper and makes so much -/
def zrm (d mc ms : Nat) : Room := { frames := d + 1, cells := mc, slots := ms, locals := 100 * (d + 2) }
def zPc (E : zS) (F : zNm) (zN : List Jvm.Cond) (D : va_G) (cl : List vw_C) (dA : Nat → ClassId) (ad : Nat → Nat) (as : List Value) (h : zH) (sz : Nat) : Array Value → State → Prop :=
  va_Pc (as.map (zv ad)) (fun U => U.heap.size = sz ∧ h.length ≤ 9000 ∧ va_P D cl (zw dA ad h) U.heap ∧ va_K D cl (ztys dA) U ∧ va_D (fun _ => True) (zw dA ad h) ∧ zG E F zN ad (va_A (zw dA ad h) sz) U U.heap ∧ zG2 E ad (va_A (zw dA ad h) sz) U U.heap)
def zQc (D : va_G) (cl : List vw_C) (dA : Nat → ClassId) (ad : Nat → Nat) (h : zH) (sz : Nat) (r : Option Value) (h' : zH) : Array Value → State → Outcome → State → Prop := fun _ st o t =>
  ∃ ad' : Nat → Nat, (∀ i, i < h.length ∨ h'.length ≤ i → ad' i = ad i) ∧ h'.length ≤ 9000 ∧ o = .returned (r.map (zv ad')) ∧ va_P D cl (zw dA ad' h') t.heap ∧ va_D (va_A (zw dA ad h) sz) (zw dA ad' h') ∧ va_F (va_A (zw dA ad h) sz) st t
theorem zPc_blind {E : zS} {F : zNm} {cl : List vw_C} {zT zN : List Jvm.Cond} (hC : zokc cl zT zN) {D : va_G} {dA : Nat → ClassId} {ad : Nat → Nat} {as : List Value} {h : zH} {sz : Nat} : FrameBlind (zPc E F zN D cl dA ad as h sz) := by
  intro a U g mk q
  obtain ⟨q0, q1, q2, qP, qK, qD, qG, qG2⟩ := q
  exact ⟨q0, q1, q2, qP, va_K.moved (u := U) (U := U.calling g mk a) (Vm.Alike.refl U.vm) qK, qD, zG_same hC (U := U) (V := U.calling g mk a) (H := U.heap) rfl qG, zG2_same (U := U) (V := U.calling g mk a) (H := U.heap) rfl qG2⟩
