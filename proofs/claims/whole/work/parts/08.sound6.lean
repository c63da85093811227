/-! the enum's copy, arraycopy, Object's constructor -/
abbrev zcln : MethodName := ⟨"[LPeaceRing$Word;", "clone", "()Ljava/lang/Object;"⟩
abbrev zcln0 : MethodName := ⟨"java/lang/Object", "clone", "()Ljava/lang/Object;"⟩
def zokn (zT : List Jvm.Cond) (own : String) : Instr → Nat → Prop
  | .invokevirtual i, a => a = 9997 → Jvm.Cond.methodLink own i zcln ∈ zT ∧ Jvm.Cond.sameMethod "[LPeaceRing$Word;" "java/lang/Object" "clone" "()Ljava/lang/Object;" ∈ zT ∧ Jvm.Cond.native zcln0 ∈ zT ∧ Jvm.Cond.instanceMethod zcln0 ∈ zT ∧ Jvm.Cond.selects "[LPeaceRing$Word;" zcln zcln0 ∈ zT
  | .invokestatic i, a => a = 9999 → Jvm.Cond.methodLink own i arraycopyName ∈ zT ∧ Jvm.Cond.native arraycopyName ∈ zT ∧ Jvm.Cond.static arraycopyName ∈ zT ∧ Jvm.Cond.initialized "java/lang/System" ∈ zT
  | .invokespecial i, a => a = 9998 → Jvm.Cond.methodLink own i Lib.objectInit ∈ zT ∧ Jvm.Cond.instanceMethod Lib.objectInit ∈ zT ∧ Jvm.Cond.code Lib.objectInit ⟨#[0xb1]⟩ 1 none ∈ zT
  | _, _ => True
section ZY
variable {p : Program} {l : Launch} {e : Env} {R : Room} {s : State} {m : MethodId} {args : Array Value} {below : List Frame} {meth : Method} {c : Code} {H : Heap} {locs : List Loc} {cells slots : Nat} {Q : State → Prop}
variable {cc : ByteArray} {pc : Nat} {ls : Array Slot} {ad : Nat → Nat} {dA : Nat → ClassId} {D : va_G} {cl : List vw_C} {zT zN : List Jvm.Cond} {E : zS} {F : zNm} {A : Nat → Prop} {own : String}
theorem zcs_map {st : List Value} : ((st.map (zv ad)).map fun v => v.category).sum = zcs st := by
  unfold zcs
  rw [List.map_map]
  congr 1
  exact List.map_congr_left (fun v _ => zv_cat ad v)
theorem z_init0 (hx : p.tables.exec = Jvm.exec) (hb : c.code = cc) (hts : ∀ w ∈ zT, w.before args s = true) (hown : s.vm.findClass own = some m.cls) {nL : Nat} (hml : c.maxLocals = nL) (hf : 1 ≤ R.frames ∧ 100 ≤ R.locals) {L : List Value} (hl : zLv ad ls nL L)
    {i : Nat} {h h' : zH} {st st' : List Value} (hs : zinit0 st h = some (st', h')) (hd : decode cc pc = .ok (.invokespecial i, 3)) (ho : zokn zT own (.invokespecial i) 9998)
    (k : h' = h → W p l e R s m args below meth c H locs cells slots Q (F0 m (pc + 3) ls (st'.map (zv ad)))) : W p l e R s m args below meth c H locs cells slots Q (F0 m pc ls (st.map (zv ad))) := by
  obtain ⟨o1, o2, o3⟩ := ho rfl
  unfold zinit0 at hs
  split at hs
  case h_2 => cases hs
  case h_1 q st0 =>
    split at hs
    · rename_i hc
      cases hs
      exact W.objInit hx hb hown (hts _ o1) (hts _ o2) (hts _ o3) rfl (by rw [hml]; exact hl.1.1) (a := ad q) (rest := st'.map (zv ad)) rfl hd hf.1 (by rw [zcs_map]; show 2 * 0 + _ + 12 ≤ _; omega) (k rfl)
    · cases hs
theorem z_cpyf {xs ys : List Int32} {sp dp n : Nat} (h1 : sp + n ≤ xs.length) (h2 : dp + n ≤ ys.length) : va_cpy (fun j => xs.getD j 0) (fun j => ys.getD j 0) sp dp n = fun j => (zcpy xs ys sp dp n).getD j 0 := by
  funext j
  show (if dp ≤ j ∧ j < dp + n then xs.getD (sp + (j - dp)) 0 else ys.getD j 0) = (zcpy xs ys sp dp n).getD j 0
  unfold zcpy
  simp only [List.getD_eq_getElem?_getD]
  by_cases a1 : j < dp
  · rw [if_neg (by omega), List.getElem?_append_left (by simp; omega), List.getElem?_take_of_lt a1]
  · rw [List.getElem?_append_right (by simp; omega)]
    have e1 : (ys.take dp).length = dp := by simp; omega
    rw [e1]
    by_cases a2 : j < dp + n
    · rw [if_pos ⟨by omega, a2⟩, List.getElem?_append_left (by simp; omega), List.getElem?_take_of_lt (by omega), List.getElem?_drop]
    · rw [if_neg (by omega), List.getElem?_append_right (by simp; omega), List.getElem?_drop]
      have e2 : ((xs.drop sp).take n).length = n := by simp; omega
      rw [e2, show dp + n + (j - dp - n) = j by omega]
theorem z_cpyl {xs ys : List Int32} {sp dp n : Nat} (h1 : sp + n ≤ xs.length) (h2 : dp + n ≤ ys.length) : (zcpy xs ys sp dp n).length = ys.length := by
  unfold zcpy
  simp
  omega
theorem z_copy (hx : p.tables.exec = Jvm.exec) (hb : c.code = cc) (hts : ∀ w ∈ zT, w.before args s = true) (hown : s.vm.findClass own = some m.cls) {nL : Nat} (hml : c.maxLocals = nL) (hf : 1 ≤ R.frames ∧ 100 ≤ R.locals) (hK : va_K D cl (ztys dA) s) {L : List Value} (hl : zLv ad ls nL L) {h h' : zH} (hP : va_P D cl (zw dA ad h) H) (hD : va_D A (zw dA ad h)) (hS : va_S A s.heap H locs)
    {i : Nat} {st st' : List Value} (hs : zcopy st h = some (st', h')) (hd : decode cc pc = .ok (.invokestatic i, 3)) (ho : zokn zT own (.invokestatic i) 9999)
    (k : ∀ H1 locs1, va_P D cl (zw dA ad h') H1 → va_D A (zw dA ad h') → va_S A s.heap H1 locs1 → W p l e R s m args below meth c H1 locs1 cells slots Q (F0 m (pc + 3) ls (st'.map (zv ad)))) : W p l e R s m args below meth c H locs cells slots Q (F0 m pc ls (st.map (zv ad))) := by
  obtain ⟨o1, o2, o3, o4⟩ := ho rfl
  unfold zcopy at hs
  split at hs
  case h_2 => cases hs
  case h_1 n dp k1 sp k0 st0 =>
    split at hs
    · rename_i xs ys hk0 hk1
      split at hs
      · rename_i hc
        obtain ⟨c0, c1, c2, c3, c4, c5⟩ := hc
        cases hs
        refine va_copyi hx hb (by rw [hml]; exact hl.1.1.symm) hown (hts _ o1) (hts _ o2) (hts _ o3) (hts _ o4) hK hP hD hS k0 k1 0 0 (ty := .int) (zw_get hk0) (zw_get hk1) rfl rfl rfl c3 c2 c1 c4 c5 (fun _ _ => rfl) hf.1 (by rw [zcs_map]; show zcs st' + 18 ≤ _; omega) hd (fun H1 locs1 p1 p2 p3 => ?_)
        obtain ⟨p1, p2⟩ := z_wr (e' := .inl (0, zcpy xs ys sp.toNatClampNeg dp.toNatClampNeg n.toNatClampNeg)) (by simp only [ze, z_cpyf c4 c5, z_cpyl c4 c5]) p1 p2
        exact k H1 locs1 p1 p2 p3
      · cases hs
    · cases hs
theorem z_clone (hx : p.tables.exec = Jvm.exec) (hb : c.code = cc) (hts : ∀ w ∈ zT, w.before args s = true) (hown : s.vm.findClass own = some m.cls) {nL : Nat} (hml : c.maxLocals = nL) (hf : 1 ≤ R.frames ∧ 100 ≤ R.locals) (hK : va_K D cl (ztys dA) s) (hG2 : zG2 E ad A s s.heap) {h h' : zH} (hP : va_P D cl (zw dA ad h) H) (hD : va_D A (zw dA ad h)) (hS : va_S A s.heap H locs) (hA : ∀ q, s.heap.size ≤ q → A q) {L : List Value} (hl : zLv ad ls nL L)
    {i : Nat} {st st' : List Value} (hs : zclone E L st h = some (st', h')) (hd : decode cc pc = .ok (.invokevirtual i, 3)) (ho : zokn zT own (.invokevirtual i) 9997) (hrc : cells + (h'.length - h.length) ≤ R.cells) (hrs : slots + (zslots h' - zslots h) ≤ R.slots)
    (k : ∀ ad' H1, (∀ i, i < h.length ∨ h'.length ≤ i → ad' i = ad i) → h'.length ≤ 9000 → va_P D cl (zw dA ad' h') H1 → va_D A (zw dA ad' h') → va_S A s.heap H1 locs → zLv ad' ls nL L → W p l e R s m args below meth c H1 locs (cells + (h'.length - h.length)) (slots + (zslots h' - zslots h)) Q (F0 m (pc + 3) ls (st'.map (zv ad')))) : W p l e R s m args below meth c H locs cells slots Q (F0 m pc ls (st.map (zv ad))) := by
  obtain ⟨o1, o2, o3, o4, o5⟩ := ho rfl
  unfold zclone at hs
  split at hs
  case h_2 => cases hs
  case h_1 st0 =>
    split at hs
    · rename_i vs hvs
      split at hs
      · rename_i hc
        obtain ⟨hc0, hc1⟩ := hc
        cases hs
        obtain ⟨hv1, cell, q1, q2, q3, q4, q5, q6⟩ := hG2.2.2.2 vs hvs
        have e1 : (h ++ [Sum.inr (51, vs)] : zH).length - h.length = 1 := by simp
        have e2 : zslots (h ++ [Sum.inr (51, vs)]) - zslots h = vs.length := by rw [zslots_app]; simp [zslots]
        rw [e1] at hrc
        rw [e2] at hrs
        obtain ⟨kA, comp, k1, k2, k3, k4⟩ := (hK.2 3 _ rfl).2
        have ecl : cell.cls = dA 51 := Option.some.inj (q4.symm.trans k4)
        obtain ⟨c0, t0', f1, f2, f3⟩ := Cond.castable_spec (va_Nw.use (A := args) rfl hG2.2.2.1)
        cases q4.symm.trans f1
        have hH : H[ad 10300]? = some cell := by
          rw [hS.2.1 _ (Array.getElem?_eq_some_iff.mp q1).1 q6]
          exact q1
        have hsz : cell.slots.size = vs.length := by rw [q5]; simp
        intro T hT X
        obtain ⟨-, kB, hkB, compB, hkindB⟩ := State.isArrayOf_alike X.warmed.alike ((hK.2 3 _ rfl).1 0 (fun _ => .null))
        have hk' : T.vm.classes[dA 51]? = some kB := hkB
        obtain ⟨vm', X', stp⟩ := X.cloneArray hx hown (hts _ o1) (hts _ o2) (hts _ o3) (hts _ o4) (hts _ o5) (a := ad 10300) (cell := cell) (by rw [hT]; exact hH) (fun k h => by rw [h] at q2; cases q2) q3 q4 f2 f3
          (fun j v hv => by
            rw [ecl]
            rw [q5] at hv
            simp only [List.getElem?_toArray, List.getElem?_map] at hv
            cases hvj : vs[j]? with
            | none => rw [hvj] at hv; cases hv
            | some w =>
              rw [hvj] at hv
              obtain ⟨kk, -, rfl⟩ := hv1 w (List.mem_of_getElem? hvj)
              cases hv
              simp [State.fitsSlot, State.slotType?, hk', hkindB, zv, fits, zty])
          (g := F0 m pc ls (.ref (ad 10300) :: st0.map (zv ad))) rfl (by rw [hml]; exact hl.1.1) rfl (by rw [hb]; exact hd) hf.1 (by rw [zcs_map]; show 2 * 0 + _ + 14 ≤ _; omega) hrc (by rw [hsz]; exact hrs) (hloader := by rw [ecl]; exact Vm.clonesLoader_of_array k1 k2)
        rw [hsz] at X'
        obtain ⟨ad', g1, g2, g3, g4, g5, g6, g7, g8⟩ := z_many (g := [Sum.inr (51, vs)]) (H1 := H.push { cls := cell.cls, slots := cell.slots }) (st := st0) hc1 hl hP hD hS hA (by simp) (fun q hq => by rw [Array.getElem?_push, if_neg (Nat.ne_of_lt hq)]) (fun j x hj => by
          cases j with
          | succ j => simp at hj
          | zero =>
            simp at hj
            subst hj
            show (H.push _)[H.size + 0]? = some (vp_cell _ _)
            rw [Nat.add_zero, Array.getElem?_push_size, vp_cell_q, ecl, q5]
            have : ∀ (X : Array Value), X = Array.ofFn (n := vs.length) (fun j => va_rf (zo (fun j => if h.length ≤ j ∧ j < h.length + [(Sum.inr (51, vs) : zE)].length then H.size + (j - h.length) else ad j) (vs.getD j.val .null))) → some ({ cls := dA 51, slots := X } : Cell) = some (arrV (dA 51) vs.length (fun j => va_rf (zo (fun j => if h.length ≤ j ∧ j < h.length + [(Sum.inr (51, vs) : zE)].length then H.size + (j - h.length) else ad j) (vs.getD j .null)))) := by
              intro X hX
              rw [hX]
              rfl
            refine this _ ?_
            have hlen : h.length + 1 ≤ 9000 := by
              unfold zroom at hc1
              simp only [Bool.and_eq_true, decide_eq_true_eq] at hc1
              exact hc1.1.1.1
            apply Array.ext
            · simp
            · intro j h1 h2
              have hj : j < vs.length := by simpa using h2
              obtain ⟨kk, hkk, hvk⟩ := hv1 (vs[j]) (List.getElem_mem hj)
              simp only [List.getElem_toArray, List.getElem_map, Array.getElem_ofFn, List.getD_eq_getElem?_getD, List.getElem?_eq_getElem hj, Option.getD_some, hvk, zv, zo, va_rf, List.length_cons, List.length_nil]
              rw [if_neg (fun hh => absurd (Nat.lt_of_lt_of_le hh.2 (Nat.le_trans (show h.length + (0 + 1) ≤ 10000 by omega) hkk)) (Nat.lt_irrefl _))])
        have hkk := k ad' _ (by simpa using g1) (by simpa using g8) g2 g3 g4 g5
        rw [e1, e2] at hkk
        obtain ⟨t, a1, b1⟩ := hkk _ (by show (T.setVm vm').heap.push _ = _; rw [show (T.setVm vm').heap = H from hT]) X'
        refine ⟨t, stp t ?_, b1⟩
        have e9 : T.heap.size = H.size := by rw [hT]
        rw [e9]
        simpa [zv, g7 (by simp), g6] using a1
      · cases hs
    · cases hs
end ZY
