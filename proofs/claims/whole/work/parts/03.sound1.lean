/-! The interpreter and the machine: values, cells, locals. -/
def zv (ad : Nat → Nat) : Value → Value
  | .ref k => .ref (ad k)
  | v => v
def zo (ad : Nat → Nat) : Value → Option Nat
  | .ref k => some (ad k)
  | _ => none
def ze (dA : Nat → ClassId) (ad : Nat → Nat) : zE → va_E
  | .inl (t, xs) => .inl (dA t, xs.length, .inl (fun j => xs.getD j 0))
  | .inr (k, vs) => if k < 50 then .inr (k, vs.map (zv ad)) else .inl (dA k, vs.length, .inr (.inr (.inr (.inr (fun j => zo ad (vs.getD j .null))))))
def zw (dA : Nat → ClassId) (ad : Nat → Nat) (h : zH) : va_W := h.mapIdx (fun i e => (ad i, ze dA ad e))
theorem zw_get {dA : Nat → ClassId} {ad : Nat → Nat} {h : zH} {k : Nat} {e : zE} (hk : h[k]? = some e) : (zw dA ad h)[k]? = some (ad k, ze dA ad e) := by
  unfold zw
  rw [List.getElem?_mapIdx, hk]
  rfl
theorem zw_set {dA : Nat → ClassId} {ad : Nat → Nat} {h : zH} {k : Nat} {e : zE} : (zw dA ad h).set k (ad k, ze dA ad e) = zw dA ad (h.set k e) := by
  unfold zw
  apply List.ext_getElem?
  intro i
  rw [List.getElem?_set, List.getElem?_mapIdx, List.getElem?_mapIdx, List.getElem?_set]
  by_cases hik : k = i
  · subst hik
    rw [if_pos rfl, if_pos rfl, List.length_mapIdx]
    by_cases hl : k < h.length
    · rw [if_pos hl, if_pos hl]; rfl
    · rw [if_neg hl, if_neg hl]; rfl
  · rw [if_neg hik, if_neg hik]
theorem zv_cat (ad : Nat → Nat) (v : Value) : (zv ad v).category = v.category := by cases v <;> rfl
/-- what isn't told of a local -/
def zun : Value → Bool
  | .retAddr _ => true
  | _ => false
def zlv (ad : Nat → Nat) (L : List Value) : List (Nat × Value) := (L.zipIdx.filter (fun q => !(zun q.1))).map (fun q => (q.2, zv ad q.1))
theorem zlv_mem {ad : Nat → Nat} {L : List Value} {i : Nat} {w : Value} : (i, w) ∈ zlv ad L ↔ ∃ v, L[i]? = some v ∧ zun v = false ∧ w = zv ad v := by
  unfold zlv
  rw [List.mem_map]
  constructor
  · rintro ⟨⟨v, j⟩, hq, he⟩
    obtain ⟨h1, h2⟩ := List.mem_filter.mp hq
    simp only [Prod.mk.injEq] at he
    obtain ⟨rfl, rfl⟩ := he
    refine ⟨v, ?_, by simpa using h2, rfl⟩
    simpa using List.mem_zipIdx_iff_getElem?.mp h1
  · rintro ⟨v, h1, h2, rfl⟩
    refine ⟨(v, i), List.mem_filter.mpr ⟨?_, by simp [h2]⟩, rfl⟩
    exact List.mem_zipIdx_iff_getElem?.mpr (by simpa using h1)
def zLv (ad : Nat → Nat) (ls : Array Slot) (nL : Nat) (L : List Value) : Prop := lv_has ls nL (zlv ad L) ∧ L.length = nL
theorem zLv_at {ad : Nat → Nat} {ls : Array Slot} {nL : Nat} {L : List Value} (h : zLv ad ls nL L) {i : Nat} {v : Value} (hi : L[i]? = some v) (hu : zun v = false) : ls[i]? = some (.val (zv ad v)) :=
  h.1.2.2 (i, zv ad v) (zlv_mem.mpr ⟨v, hi, hu, rfl⟩)
theorem zLv_set {ad : Nat → Nat} {ls : Array Slot} {nL : Nat} {L : List Value} {i : Nat} {v : Value} (hL : L.length = nL) (hz : zlong L i = false)
    (h : lv_has ls nL ((i, zv ad v) :: (zlv ad L).filter (fun q => !(q.1 == i) && !(q.1 + 1 == i && q.2.category == 2)))) : zLv ad ls nL (L.set i v) := by
  refine ⟨⟨h.1, h.2.1, fun q hq => ?_⟩, by simpa using hL⟩
  obtain ⟨j, w⟩ := q
  obtain ⟨u, h1, h2, rfl⟩ := zlv_mem.mp hq
  by_cases hj : j = i
  · subst hj
    rw [List.getElem?_set] at h1
    by_cases hl : j < L.length
    · simp [hl] at h1
      subst h1
      exact h.2.2 _ List.mem_cons_self
    · simp [hl] at h1
  · rw [List.getElem?_set, if_neg (fun q => hj q.symm)] at h1
    refine h.2.2 (j, zv ad u) (List.mem_cons_of_mem _ (List.mem_filter.mpr ⟨zlv_mem.mpr ⟨u, h1, h2, rfl⟩, ?_⟩))
    rw [zv_cat]
    by_cases h3 : j + 1 = i
    · subst h3
      simp [zlong, h1] at hz
      simp [hz]
    · simp [hj, h3]
section ZS
variable {p : Program} {l : Launch} {e : Env} {R : Room} {s : State} {m : MethodId} {args : Array Value} {below : List Frame} {meth : Method} {c : Code} {H : Heap} {locs : List Loc} {cells slots : Nat} {Q : State → Prop}
variable {cc : ByteArray} {pc : Nat} {ls : Array Slot} {ad : Nat → Nat}
set_option maxHeartbeats 1000000 in
theorem z_stk (hx : p.tables.exec = Jvm.exec) (hb : c.code = cc) {ins : Instr} {st st' : List Value} (hs : zstk ins st = some st') (hd : decode cc pc = .ok (ins, zlen ins))
    (k : W p l e R s m args below meth c H locs cells slots Q (F0 m (pc + zlen ins) ls (st'.map (zv ad)))) : W p l e R s m args below meth c H locs cells slots Q (F0 m pc ls (st.map (zv ad))) := by
  unfold zstk at hs
  split at hs
  case h_1 => cases hs; exact lv_iconst hx hb hd rfl k
  case h_2 => cases hs; exact lv_bipush hx hb hd rfl k
  case h_3 => cases hs; exact lv_sipush hx hb hd rfl k
  case h_4 => unfold zb2 at hs; split at hs <;> cases hs; exact lv_iadd hx hb hd k
  case h_5 => unfold zb2 at hs; split at hs <;> cases hs; exact lv_isub hx hb hd k
  case h_6 => unfold zb2 at hs; split at hs <;> cases hs; exact lv_imul hx hb hd k
  case h_7 => unfold zb2 at hs; split at hs <;> cases hs; exact lv_iand hx hb hd k
  case h_8 => unfold zb2 at hs; split at hs <;> cases hs; exact lv_ior hx hb hd k
  case h_9 => unfold zb2 at hs; split at hs <;> cases hs; exact lv_ixor hx hb hd k
  case h_10 => unfold zb2 at hs; split at hs <;> cases hs; exact lv_ishl hx hb hd k
  case h_11 => unfold zb2 at hs; split at hs <;> cases hs; exact lv_ishr hx hb hd k
  case h_12 => unfold zb2 at hs; split at hs <;> cases hs; exact lv_iushr hx hb hd rfl k
  case h_13 =>
    unfold zdiv at hs; split at hs
    · split at hs
      · cases hs
      · rename_i hne
        cases hs; exact lv_idiv hx hb hd hne k
    · cases hs
  case h_14 =>
    unfold zdiv at hs; split at hs
    · split at hs
      · cases hs
      · rename_i hne
        cases hs; exact lv_irem hx hb hd hne k
    · cases hs
  case h_15 => unfold zu at hs; split at hs <;> cases hs; exact lv_ineg hx hb hd k
  case h_16 => unfold zu at hs; split at hs <;> cases hs; exact lv_i2b hx hb hd rfl k
  case h_17 => unfold zu at hs; split at hs <;> cases hs; exact lv_i2s hx hb hd rfl k
  case h_18 => unfold zu at hs; split at hs <;> cases hs; exact lv_i2c hx hb hd rfl k
  case h_19 => unfold zil at hs; split at hs <;> cases hs; exact lv_i2l hx hb hd rfl k
  case h_20 => unfold zli at hs; split at hs <;> cases hs; exact lv_l2i hx hb hd rfl k
  case h_21 => unfold zl2 at hs; split at hs <;> cases hs; exact lv_land hx hb hd k
  case h_22 => unfold zl2 at hs; split at hs <;> cases hs; exact lv_lor hx hb hd k
  case h_23 => unfold zls at hs; split at hs <;> cases hs; exact lv_lshl hx hb hd rfl k
  case h_24 => unfold zls at hs; split at hs <;> cases hs; exact lv_lshr hx hb hd rfl k
  case h_25 =>
    unfold zdup at hs; split at hs
    · split at hs
      · rename_i hc
        cases hs; exact lv_dup hx hb hd (by rw [zv_cat]; exact hc) k
      · cases hs
    · cases hs
  case h_26 =>
    unfold zdup2 at hs; split at hs
    · split at hs
      · rename_i hc
        cases hs; exact lv_dup2_11 hx hb hd (by rw [zv_cat]; exact hc.1) (by rw [zv_cat]; exact hc.2) k
      · cases hs
    · cases hs
  case h_27 =>
    unfold zpop at hs; split at hs
    · split at hs
      · rename_i hc
        cases hs; exact lv_pop hx hb hd (by rw [zv_cat]; exact hc) k
      · cases hs
    · cases hs
  case h_28 => cases hs
end ZS
