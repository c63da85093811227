/-! The instructions on the heap, in one statement. -/
def zsz : zE → Nat
  | .inl (_, xs) => xs.length
  | .inr (_, vs) => vs.length
theorem zslots_eq (h : zH) : zslots h = (h.map zsz).sum := by
  unfold zslots
  congr 1
theorem zslots_set {h : zH} {k : Nat} {e e' : zE} (hk : h[k]? = some e) (hs : zsz e' = zsz e) : zslots (h.set k e') = zslots h := by
  rw [zslots_eq, zslots_eq, List.map_set, hs]
  congr 1
  apply List.ext_getElem?
  intro i
  rw [List.getElem?_set]
  by_cases hik : k = i
  · subst hik
    obtain ⟨this, hke⟩ := List.getElem?_eq_some_iff.mp hk
    simp [this, hke]
  · rw [if_neg hik]
/-- what an instruction without a new cell leaves of the heap's sizes -/
theorem zh_same {h h' : zH} (hh : h' = h ∨ ∃ k e e', h[k]? = some e ∧ h' = h.set k e' ∧ zsz e' = zsz e) : h'.length = h.length ∧ zslots h' = zslots h := by
  rcases hh with rfl | ⟨k, e, e', h1, rfl, h2⟩
  · exact ⟨rfl, rfl⟩
  · exact ⟨by simp, zslots_set h1 h2⟩
theorem zh_putf {a b : Nat} {c : Int} {st st' : List Value} {h h' : zH} (hs : zputf a b c st h = some (st', h')) : h' = h ∨ ∃ k e e', h[k]? = some e ∧ h' = h.set k e' ∧ zsz e' = zsz e := by
  unfold zputf at hs
  split at hs
  · split at hs
    · rename_i ci fs hq
      split at hs
      · cases hs
        exact Or.inr ⟨_, _, _, hq, rfl, by simp [zsz]⟩
      · cases hs
    · cases hs
  · cases hs
theorem zh_ast {t : Nat} {st st' : List Value} {h h' : zH} (hs : zast t st h = some (st', h')) : h' = h ∨ ∃ k e e', h[k]? = some e ∧ h' = h.set k e' ∧ zsz e' = zsz e := by
  unfold zast at hs
  split at hs
  · split at hs
    · rename_i t' xs hq
      split at hs
      · rw [Option.map_eq_some_iff] at hs
        obtain ⟨j, hj, hv2⟩ := hs
        cases hv2
        exact Or.inr ⟨_, _, _, hq, rfl, by simp [zsz]⟩
      · cases hs
    · cases hs
  · cases hs
theorem zh_aast {E : zS} {st st' : List Value} {h h' : zH} (hs : zaast E st h = some (st', h')) : h' = h ∨ ∃ k e e', h[k]? = some e ∧ h' = h.set k e' ∧ zsz e' = zsz e := by
  unfold zaast at hs
  split at hs
  · split at hs
    · rename_i t' xs hq
      split at hs
      · rw [Option.map_eq_some_iff] at hs
        obtain ⟨j, hj, hv2⟩ := hs
        cases hv2
        exact Or.inr ⟨_, _, _, hq, rfl, by simp [zsz]⟩
      · cases hs
    · cases hs
  · cases hs
theorem zh_copy {st st' : List Value} {h h' : zH} (hs : zcopy st h = some (st', h')) : h' = h ∨ ∃ k e e', h[k]? = some e ∧ h' = h.set k e' ∧ zsz e' = zsz e := by
  unfold zcopy at hs
  split at hs
  · split at hs
    · rename_i xs ys hk0 hk1
      split at hs
      · rename_i hc
        cases hs
        exact Or.inr ⟨_, _, _, hk1, rfl, by simp only [zsz]; exact z_cpyl hc.2.2.2.2.1 hc.2.2.2.2.2⟩
      · cases hs
    · cases hs
  · cases hs
/-- what the tables must say for an instruction on the heap -/
def zokH (cl : List vw_C) (E : zS) (F : zNm) (zT zN : List Jvm.Cond) (own mname : String) (ins : Instr) (a b : Nat) (c : Int) : Prop := zokh cl F zT zN own mname ins a b c ∧ zoka cl E zT own ins a ∧ zokn zT own ins a
section ZZ
variable {p : Program} {l : Launch} {e : Env} {R : Room} {s : State} {m : MethodId} {args : Array Value} {below : List Frame} {meth : Method} {c : Code} {H : Heap} {locs : List Loc} {cells slots : Nat} {Q : State → Prop}
variable {cc : ByteArray} {pc : Nat} {ls : Array Slot} {ad : Nat → Nat} {dA : Nat → ClassId} {D : va_G} {cl : List vw_C} {zT zN : List Jvm.Cond} {E : zS} {F : zNm} {A : Nat → Prop} {own : String}
/-- a state of the walk -/
def zI (D : va_G) (cl : List vw_C) (dA : Nat → ClassId) (A : Nat → Prop) (s : State) (nL : Nat) (ad : Nat → Nat) (h : zH) (H : Heap) (locs : List Loc) (ls : Array Slot) (L : List Value) : Prop :=
  h.length ≤ 9000 ∧ va_P D cl (zw dA ad h) H ∧ va_D A (zw dA ad h) ∧ va_S A s.heap H locs ∧ zLv ad ls nL L
/-- what holds in the whole walk of a method's body -/
def zB (p : Program) (R : Room) (s : State) (m : MethodId) (args : Array Value) (c : Code) (cc : ByteArray) (nL : Nat) (own : String) (D : va_G) (cl : List vw_C) (dA : Nat → ClassId) (zT zN : List Jvm.Cond) (A : Nat → Prop) : Prop :=
  p.tables.exec = Jvm.exec ∧ c.code = cc ∧ c.maxLocals = nL ∧ s.vm.findClass own = some m.cls ∧ (∀ w ∈ zT, w.before args s = true) ∧ zokc cl zT zN ∧ va_K D cl (ztys dA) s ∧ (∀ q, s.heap.size ≤ q → A q) ∧ 1 ≤ R.frames ∧ 100 ≤ R.locals
set_option maxHeartbeats 1000000 in
theorem z_hp {nL : Nat} (B : zB p R s m args c cc nL own D cl dA zT zN A) (hG : zG E F zN ad A s s.heap) (hG2 : zG2 E ad A s s.heap) {h h' : zH} {L st st' : List Value} (hI : zI D cl dA A s nL ad h H locs ls L)
    {ins : Instr} {a b : Nat} {cI : Int} (hs : zhp E ins a b cI L st h = some (st', h')) (hd : decode cc pc = .ok (ins, zlen ins)) (ho : zokH cl E F zT zN own meth.name ins a b cI) (hrc : cells + (h'.length - h.length) ≤ R.cells) (hrs : slots + (zslots h' - zslots h) ≤ R.slots)
    (k : ∀ ad' H1 locs1, (∀ i, i < h.length ∨ h'.length ≤ i → ad' i = ad i) → h.length ≤ h'.length → zslots h ≤ zslots h' → zI D cl dA A s nL ad' h' H1 locs1 ls L → W p l e R s m args below meth c H1 locs1 (cells + (h'.length - h.length)) (slots + (zslots h' - zslots h)) Q (F0 m (pc + zlen ins) ls (st'.map (zv ad')))) : W p l e R s m args below meth c H locs cells slots Q (F0 m pc ls (st.map (zv ad))) := by
  obtain ⟨hx, hb, hml, hown, hts, hC, hK, hA, hfr, hlo⟩ := B
  obtain ⟨hlen, hP, hD, hS, hl⟩ := hI
  obtain ⟨oh, oa, on⟩ := ho
  have kr : h' = h → W p l e R s m args below meth c H locs cells slots Q (F0 m (pc + zlen ins) ls (st'.map (zv ad))) := by
    intro hh
    subst hh
    simpa using k ad H locs (fun _ _ => rfl) (Nat.le_refl _) (Nat.le_refl _) ⟨hlen, hP, hD, hS, hl⟩
  have kw : (h' = h ∨ ∃ k e e', h[k]? = some e ∧ h' = h.set k e' ∧ zsz e' = zsz e) → ∀ H1 locs1, va_P D cl (zw dA ad h') H1 → va_D A (zw dA ad h') → va_S A s.heap H1 locs1 → W p l e R s m args below meth c H1 locs1 cells slots Q (F0 m (pc + zlen ins) ls (st'.map (zv ad))) := by
    intro hh H1 locs1 p1 p2 p3
    obtain ⟨e1, e2⟩ := zh_same hh
    have := k ad H1 locs1 (fun _ _ => rfl) (by omega) (by omega) ⟨by omega, p1, p2, p3, hl⟩
    simpa [e1, e2] using this
  have kn : h.length ≤ h'.length → zslots h ≤ zslots h' → ∀ ad' H1, (∀ i, i < h.length ∨ h'.length ≤ i → ad' i = ad i) → h'.length ≤ 9000 → va_P D cl (zw dA ad' h') H1 → va_D A (zw dA ad' h') → va_S A s.heap H1 locs → zLv ad' ls nL L → W p l e R s m args below meth c H1 locs (cells + (h'.length - h.length)) (slots + (zslots h' - zslots h)) Q (F0 m (pc + zlen ins) ls (st'.map (zv ad'))) :=
    fun g1 g2 ad' H1 p1 p2 p3 p4 p5 p6 => k ad' H1 locs p1 g1 g2 ⟨p2, p3, p4, p5, p6⟩
  unfold zhp at hs
  split at hs
  case h_1 => exact z_getf hx hb hts hown hC hK hG hP hS hs hd oh kr
  case h_2 => exact z_putf hx hb hts hown hC hK hG hP hD hS hs hd oh (kw (zh_putf hs))
  case h_3 => exact z_gets hx hb hts hown hC hG hS hs hd oh kr
  case h_4 => exact z_ald hx hb hK hG hP hS (Or.inl ⟨rfl, rfl⟩) hs hd kr
  case h_5 => exact z_ald hx hb hK hG hP hS (Or.inr ⟨rfl, rfl⟩) hs hd kr
  case h_6 => exact z_aald hx hb hK hP hs hd kr
  case h_7 => exact z_ast hx hb hK hP hD hS (Or.inl ⟨rfl, rfl⟩) hs hd (kw (zh_ast hs))
  case h_8 => exact z_ast hx hb hK hP hD hS (Or.inr ⟨rfl, rfl⟩) hs hd (kw (zh_ast hs))
  case h_9 => exact z_aast hx hb hC hK hG hP hD hS hs hd (kw (zh_aast hs))
  case h_10 => exact z_alen hx hb hK hG hP hS hs hd kr
  case h_11 =>
    have hg : h.length ≤ h'.length ∧ zslots h ≤ zslots h' := by
      unfold znew at hs
      split at hs
      · split at hs
        · cases hs; exact ⟨by simp, by rw [zslots_app]; omega⟩
        · cases hs
      · cases hs
    exact z_new hx hb hts hown hC hK hP hD hS hA hl hs hd oa hrc hrs (kn hg.1 hg.2)
  case h_12 =>
    have hg : h.length ≤ h'.length ∧ zslots h ≤ zslots h' := by
      unfold znewa at hs
      split at hs
      · split at hs
        · cases hs; exact ⟨by simp, by rw [zslots_app]; omega⟩
        · cases hs
      · cases hs
    exact z_newa hx hb hts hK hP hD hS hA hl (Or.inl ⟨rfl, rfl⟩) hs hd oa hrc hrs (kn hg.1 hg.2)
  case h_13 =>
    have hg : h.length ≤ h'.length ∧ zslots h ≤ zslots h' := by
      unfold znewa at hs
      split at hs
      · split at hs
        · cases hs; exact ⟨by simp, by rw [zslots_app]; omega⟩
        · cases hs
      · cases hs
    exact z_newa hx hb hts hK hP hD hS hA hl (Or.inr ⟨rfl, rfl⟩) hs hd oa hrc hrs (kn hg.1 hg.2)
  case h_14 =>
    have hg : h.length ≤ h'.length ∧ zslots h ≤ zslots h' := by
      unfold zanew at hs
      split at hs
      · split at hs
        · cases hs; exact ⟨by simp, by rw [zslots_app]; omega⟩
        · cases hs
      · cases hs
    exact z_anew hx hb hts hown hK hG2 hP hD hS hA hl hs hd oa hrc hrs (kn hg.1 hg.2)
  case h_15 =>
    have hg : h.length ≤ h'.length ∧ zslots h ≤ zslots h' := by
      unfold zmulti at hs
      split at hs
      · split at hs
        · cases hs; exact ⟨by simp, by rw [zslots_app]; omega⟩
        · cases hs
      · cases hs
    exact z_multi hx hb hts hown hK hG2 hP hD hS hA hl hs hd oa hrc hrs (kn hg.1 hg.2)
  case h_16 => exact z_cast hx hb hts hown hK hP hs hd oh kr
  case h_17 =>
    rw [Option.map_eq_some_iff] at hs
    obtain ⟨st1, hs1, hv2⟩ := hs
    cases hv2
    exact z_ldc hx hb hts hown hG hs1 hd oh (kr rfl)
  case h_18 =>
    rw [Option.map_eq_some_iff] at hs
    obtain ⟨st1, hs1, hv2⟩ := hs
    cases hv2
    exact z_ldcw hx hb hts hown hG hs1 hd oh (kr rfl)
  case h_19 =>
    cases hs
    exact lv_ldc2 hx hb hown (hts _ oh) hd (kr rfl)
  case h_20 => exact z_init0 hx hb hts hown hml ⟨hfr, hlo⟩ hl hs hd on kr
  case h_21 => exact z_copy hx hb hts hown hml ⟨hfr, hlo⟩ hK hl hP hD hS hs hd on (kw (zh_copy hs))
  case h_22 =>
    have hg : h.length ≤ h'.length ∧ zslots h ≤ zslots h' := by
      unfold zclone at hs
      split at hs
      · split at hs
        · split at hs
          · cases hs; exact ⟨by simp, by rw [zslots_app]; omega⟩
          · cases hs
        · cases hs
      · cases hs
    exact z_clone hx hb hts hown hml ⟨hfr, hlo⟩ hK hG2 hP hD hS hA hl hs hd on hrc hrs (kn hg.1 hg.2)
  case h_23 => cases hs
end ZZ
