/-! Instructions that make cells. -/
def zG2 (E : zS) (ad : Nat → Nat) (A : Nat → Prop) (U : State) (H : Heap) : Prop :=
  (∀ C, C = "PeaceRing$Word" ∨ C = "PeaceRing$Version" ∨ C = "java/lang/String" → va_AO C U) ∧ (Jvm.Cond.arrayOver (.array .int)).before #[] U = true ∧ va_Nw (.castable "[LPeaceRing$Word;" "java/lang/Cloneable") U ∧
  (∀ vs, E.2.2.2 100 = some vs → (∀ v ∈ vs, ∃ k, 10000 ≤ k ∧ v = .ref k) ∧ ∃ cell : Cell, H[ad 10300]? = some cell ∧ cell.vm.isStatics = false ∧ cell.vm ≠ .unknown ∧ U.vm.findClass "[LPeaceRing$Word;" = some cell.cls ∧ cell.slots = (vs.map (zv ad)).toArray ∧ ¬ A (ad 10300))
/-- what the tables must say for an instruction that makes cells -/
def zoka (cl : List vw_C) (E : zS) (zT : List Jvm.Cond) (own : String) : Instr → Nat → Prop
  | .new i, a => ∃ (C : String) (T : u_T) (N : Nat) (ty : Nat → FieldType) (fs : List Value), cl[a]? = some (C, T, N) ∧ Jvm.Cond.classLink own i C ∈ zT ∧ Jvm.Cond.instantiable C N ∈ zT ∧ Jvm.Cond.initialized C ∈ zT ∧ (∀ k, k < N → parseFieldDescriptor (T k).2.2.1 = some (ty k)) ∧ E.2.2.2 a = some fs ∧ fs.length = N ∧ (∀ v ∈ fs, ∀ ad : Nat → Nat, zv ad v = v) ∧ ∀ j, j < N → defaultValue (ty j) = vp_V fs j
  | .newarray .int, _ => Jvm.Cond.arrayClass .int ∈ zT
  | .newarray .byte, _ => Jvm.Cond.arrayClass .byte ∈ zT
  | .anewarray i, a => (a = 51 ∧ Jvm.Cond.classLink own i "PeaceRing$Word" ∈ zT) ∨ (a = 52 ∧ Jvm.Cond.classLink own i "PeaceRing$Version" ∈ zT) ∨ (a = 53 ∧ Jvm.Cond.classLink own i "java/lang/String" ∈ zT)
  | .multianewarray i _, _ => Jvm.Cond.classLink own i "[[I" ∈ zT ∧ Jvm.Cond.arrayClass .int ∈ zT
  | _, _ => True
theorem zv_free {ad : Nat → Nat} {n : Nat} {q : Nat → Nat} {hi : Nat} {v : Value} (h : zfree n hi v = true) (hq : ∀ i, i < n ∨ hi ≤ i → q i = ad i) : zv q v = zv ad v := by
  cases v <;> try rfl
  simp only [zfree, decide_eq_true_eq] at h
  simp only [zv, hq _ h]
theorem zo_free {ad : Nat → Nat} {n : Nat} {q : Nat → Nat} {hi : Nat} {v : Value} (h : zfree n hi v = true) (hq : ∀ i, i < n ∨ hi ≤ i → q i = ad i) : zo q v = zo ad v := by
  cases v <;> try rfl
  simp only [zfree, decide_eq_true_eq] at h
  simp only [zo, hq _ h]
theorem ze_free {dA : Nat → ClassId} {ad q : Nat → Nat} {n hi : Nat} {e : zE} (h : zfreeE n hi e = true) (hq : ∀ i, i < n ∨ hi ≤ i → q i = ad i) : ze dA q e = ze dA ad e := by
  obtain ⟨t, xs⟩ | ⟨k, vs⟩ := e
  · rfl
  · have h1 : ∀ v ∈ vs, zfree n hi v = true := List.all_eq_true.mp h
    have h2 : vs.map (zv q) = vs.map (zv ad) := List.map_congr_left (fun v hv => zv_free (h1 v hv) hq)
    have h3 : (fun j => zo q (vs.getD j .null)) = (fun j => zo ad (vs.getD j .null)) := by
      funext j
      by_cases hj : j < vs.length
      · rw [List.getD_eq_getElem?_getD, List.getElem?_eq_getElem hj]
        exact zo_free (h1 _ (List.getElem_mem hj)) hq
      · rw [List.getD_eq_getElem?_getD, List.getElem?_eq_none (by omega)]
        rfl
    simp only [ze, h2, h3]
theorem zw_free {dA : Nat → ClassId} {ad q : Nat → Nat} {hi : Nat} {h : zH} (hf : h.all (zfreeE h.length hi) = true) (hq : ∀ i, i < h.length ∨ hi ≤ i → q i = ad i) : zw dA q h = zw dA ad h := by
  unfold zw
  apply List.ext_getElem?
  intro i
  rw [List.getElem?_mapIdx, List.getElem?_mapIdx]
  cases hi' : h[i]? with
  | none => rfl
  | some e =>
    have hl := (List.getElem?_eq_some_iff.mp hi').1
    have := List.all_eq_true.mp hf e (List.mem_of_getElem? hi')
    simp only [Option.map_some, ze_free this hq, hq i (Or.inl hl)]
theorem zw_app {dA : Nat → ClassId} {ad : Nat → Nat} {h g : zH} : zw dA ad (h ++ g) = zw dA ad h ++ g.mapIdx (fun i e => (ad (i + h.length), ze dA ad e)) := by
  unfold zw
  rw [List.mapIdx_append]
theorem zLv_free {ad q : Nat → Nat} {ls : Array Slot} {nL n hi : Nat} {L : List Value} (hl : zLv ad ls nL L) (hf : L.all (zfree n hi) = true) (hq : ∀ i, i < n ∨ hi ≤ i → q i = ad i) : zLv q ls nL L := by
  refine ⟨⟨hl.1.1, hl.1.2.1, fun x hx => ?_⟩, hl.2⟩
  obtain ⟨j, w⟩ := x
  obtain ⟨v, h1, h2, rfl⟩ := zlv_mem.mp hx
  rw [zv_free (List.all_eq_true.mp hf v (List.mem_of_getElem? h1)) hq]
  exact zLv_at hl h1 h2
theorem zst_free {ad q : Nat → Nat} {n hi : Nat} {st : List Value} (hf : st.all (zfree n hi) = true) (hq : ∀ i, i < n ∨ hi ≤ i → q i = ad i) : st.map (zv q) = st.map (zv ad) :=
  List.map_congr_left (fun v hv => zv_free (List.all_eq_true.mp hf v hv) hq)
theorem zslots_app (h g : zH) : zslots (h ++ g) = zslots h + zslots g := by
  simp [zslots]
section ZV
variable {p : Program} {l : Launch} {e : Env} {R : Room} {s : State} {m : MethodId} {args : Array Value} {below : List Frame} {meth : Method} {c : Code} {H : Heap} {locs : List Loc} {cells slots : Nat} {Q : State → Prop}
variable {cc : ByteArray} {pc : Nat} {ls : Array Slot} {ad : Nat → Nat} {dA : Nat → ClassId} {D : va_G} {cl : List vw_C} {zT zN : List Jvm.Cond} {E : zS} {F : zNm} {A : Nat → Prop} {own : String}
/-- one new cell -/
theorem z_one {h : zH} {L st : List Value} {nL q : Nat} {e' : zE} {x : va_E} {H1 : Heap} (hr : zroom 1 L st h = true) (hl : zLv ad ls nL L) (hxe : x = ze dA (va_up ad h.length q) e') (h1 : va_P D cl (zw dA ad h ++ [(q, x)]) H1) (h2 : va_D A (zw dA ad h ++ [(q, x)])) :
    va_P D cl (zw dA (va_up ad h.length q) (h ++ [e'])) H1 ∧ va_D A (zw dA (va_up ad h.length q) (h ++ [e'])) ∧ zLv (va_up ad h.length q) ls nL L ∧ st.map (zv (va_up ad h.length q)) = st.map (zv ad) ∧ (∀ i, i < h.length ∨ h.length + 1 ≤ i → va_up ad h.length q i = ad i) ∧ va_up ad h.length q h.length = q ∧ h.length + 1 ≤ 9000 := by
  unfold zroom at hr
  simp only [Bool.and_eq_true, decide_eq_true_eq] at hr
  obtain ⟨⟨⟨r1, r2⟩, r3⟩, r4⟩ := hr
  have hq : ∀ i, i < h.length ∨ h.length + 1 ≤ i → va_up ad h.length q i = ad i := fun i hi => if_neg (by omega)
  have hqq : va_up ad h.length q h.length = q := if_pos rfl
  have hz : zw dA ad h ++ [(q, x)] = zw dA (va_up ad h.length q) (h ++ [e']) := by
    rw [zw_app, zw_free r4 hq, hxe]
    simp [List.mapIdx_cons, hqq]
  rw [hz] at h1 h2
  exact ⟨h1, h2, zLv_free hl r2 hq, zst_free r3 hq, hq, hqq, r1⟩
theorem z_new (hx : p.tables.exec = Jvm.exec) (hb : c.code = cc) (hts : ∀ w ∈ zT, w.before args s = true) (hown : s.vm.findClass own = some m.cls) (hC : zokc cl zT zN) (hK : va_K D cl (ztys dA) s) {h h' : zH} (hP : va_P D cl (zw dA ad h) H) (hD : va_D A (zw dA ad h)) (hS : va_S A s.heap H locs) (hA : ∀ q, s.heap.size ≤ q → A q) {nL : Nat} {L : List Value} (hl : zLv ad ls nL L)
    {i a : Nat} {st st' : List Value} (hs : znew E a L st h = some (st', h')) (hd : decode cc pc = .ok (.new i, 3)) (ho : zoka cl E zT own (.new i) a) (hrc : cells + (h'.length - h.length) ≤ R.cells) (hrs : slots + (zslots h' - zslots h) ≤ R.slots)
    (k : ∀ ad' H1, (∀ i, i < h.length ∨ h'.length ≤ i → ad' i = ad i) → h'.length ≤ 9000 → va_P D cl (zw dA ad' h') H1 → va_D A (zw dA ad' h') → va_S A s.heap H1 locs → zLv ad' ls nL L → W p l e R s m args below meth c H1 locs (cells + (h'.length - h.length)) (slots + (zslots h' - zslots h)) Q (F0 m (pc + 3) ls (st'.map (zv ad')))) : W p l e R s m args below meth c H locs cells slots Q (F0 m pc ls (st.map (zv ad))) := by
  obtain ⟨C, T, N, ty, fs, o1, o2, o3, o4, o5, o6, o7, o8, o9⟩ := ho
  unfold znew at hs
  rw [o6] at hs
  dsimp only at hs
  split at hs
  · rename_i hc
    cases hs
    have e1 : (h ++ [Sum.inr (a, fs)] : zH).length - h.length = 1 := by simp
    have e2 : zslots (h ++ [Sum.inr (a, fs)]) - zslots h = N := by rw [zslots_app]; simp [zslots, o7]
    rw [e1] at hrc
    rw [e2] at hrs
    refine va_new hx hb hts (hC.1 _ _ _ _ o1).2.1 ty o5 hown (hts _ o2) (hts _ o3) (hts _ o4) hK hP hD hS hA o1 o9 hrc hrs hd (fun q H1 p1 p2 p3 => ?_)
    have hlt : a < 50 := by omega
    obtain ⟨g1, g2, g3, g4, g5, g6, g7⟩ := z_one (ls := ls) (e' := .inr (a, fs)) (st := st) hc.2 hl (by
      simp only [ze, hlt, if_true]
      rw [show fs.map (zv (va_up ad h.length q)) = fs from (List.map_congr_left (fun v hv => o8 v hv _)).trans (List.map_id fs)]) p1 p2
    have := k (va_up ad h.length q) H1 (by simpa using g5) (by simpa using g7) g1 g2 p3 g3
    rw [e1, e2] at this
    simpa [zv, g6, g4] using this
  · cases hs
theorem z_rep0 {n : Nat} : (fun j => (List.replicate n (0 : Int32)).getD j 0) = fun _ => 0 := by
  funext j
  rw [List.getD_eq_getElem?_getD, List.getElem?_replicate]
  split <;> rfl
theorem z_repn {ad : Nat → Nat} {n : Nat} : (fun j => zo ad ((List.replicate n Value.null).getD j .null)) = fun _ => none := by
  funext j
  rw [List.getD_eq_getElem?_getD, List.getElem?_replicate]
  split <;> rfl
theorem z_cb0 {n : Nat} (h : n ≤ 65536) : n * componentBytes .int ≤ 536870912 := Nat.le_trans (Nat.mul_le_mul_right _ h) (by decide)
theorem z_cb1 {n : Nat} (h : n ≤ 65536) : n * componentBytes .byte ≤ 536870912 := Nat.le_trans (Nat.mul_le_mul_right _ h) (by decide)
theorem z_last {cA : ClassId} {ty : FieldType} (hK : va_K D cl (ztys dA ++ [(cA, ty)]) s) : va_RA s cA ty := (hK.2 6 _ rfl).2
theorem z_newa (hx : p.tables.exec = Jvm.exec) (hb : c.code = cc) (hts : ∀ w ∈ zT, w.before args s = true) (hK : va_K D cl (ztys dA) s) {h h' : zH} (hP : va_P D cl (zw dA ad h) H) (hD : va_D A (zw dA ad h)) (hS : va_S A s.heap H locs) (hA : ∀ q, s.heap.size ≤ q → A q) {nL : Nat} {L : List Value} (hl : zLv ad ls nL L)
    {t a : Nat} {aty : ArrayType} (hi : (t = 0 ∧ aty = .int) ∨ (t = 1 ∧ aty = .byte)) {st st' : List Value} (hs : znewa t L st h = some (st', h')) (hd : decode cc pc = .ok (.newarray aty, 2)) (ho : zoka cl E zT own (.newarray aty) a) (hrc : cells + (h'.length - h.length) ≤ R.cells) (hrs : slots + (zslots h' - zslots h) ≤ R.slots)
    (k : ∀ ad' H1, (∀ i, i < h.length ∨ h'.length ≤ i → ad' i = ad i) → h'.length ≤ 9000 → va_P D cl (zw dA ad' h') H1 → va_D A (zw dA ad' h') → va_S A s.heap H1 locs → zLv ad' ls nL L → W p l e R s m args below meth c H1 locs (cells + (h'.length - h.length)) (slots + (zslots h' - zslots h)) Q (F0 m (pc + 2) ls (st'.map (zv ad')))) : W p l e R s m args below meth c H locs cells slots Q (F0 m pc ls (st.map (zv ad))) := by
  unfold znewa at hs
  split at hs
  case h_2 => cases hs
  case h_1 n st0 =>
    split at hs
    · rename_i hc
      obtain ⟨c1, c2, c3⟩ := hc
      cases hs
      have e1 : (h ++ [Sum.inl (t, List.replicate n.toNatClampNeg 0)] : zH).length - h.length = 1 := by simp
      have e2 : zslots (h ++ [Sum.inl (t, List.replicate n.toNatClampNeg 0)]) - zslots h = n.toNatClampNeg := by rw [zslots_app]; simp [zslots]
      rw [e1] at hrc
      rw [e2] at hrs
      have key : ∀ (q : Nat) (cA : ClassId) (H1 : Heap), cA = dA t → va_P D cl (zw dA ad h ++ [(q, .inl (cA, n.toNatClampNeg, .inl (fun _ => 0)))]) H1 → va_D A (zw dA ad h ++ [(q, .inl (cA, n.toNatClampNeg, .inl (fun _ => 0)))]) → va_S A s.heap H1 locs → W p l e R s m args below meth c H1 locs (cells + 1) (slots + n.toNatClampNeg) Q (F0 m (pc + 2) ls (.ref q :: st0.map (zv ad))) := by
        intro q cA H1 hcA p1 p2 p3
        subst hcA
        obtain ⟨g1, g2, g3, g4, g5, g6, g7⟩ := z_one (ls := ls) (e' := .inl (t, List.replicate n.toNatClampNeg 0)) (st := st0) c3 hl (by simp only [ze, z_rep0, List.length_replicate]) p1 p2
        have := k (va_up ad h.length q) H1 (by simpa using g5) (by simpa using g7) g1 g2 p3 g3
        rw [e1, e2] at this
        simpa [zv, g6, g4] using this
      rcases hi with ⟨rfl, rfl⟩ | ⟨rfl, rfl⟩
      · refine va_newa (atype := .int) (ty := .int) (a0 := (n.toNatClampNeg, .inl (fun _ => 0))) hx hb (hts _ ho) rfl hK hP hD hS hA (fun _ => rfl) c1 rfl (z_cb0 c2) hrc hrs hd (fun q cA H1 hK1 p1 p2 p3 => ?_)
        exact key q cA H1 (Option.some.inj ((show s.vm.findClass _ = some cA from z_last hK1).symm.trans (show s.vm.findClass _ = some (dA 0) from (hK.2 0 _ rfl).2))) p1 p2 p3
      · refine va_newa (atype := .byte) (ty := .byte) (a0 := (n.toNatClampNeg, .inl (fun _ => 0))) hx hb (hts _ ho) rfl hK hP hD hS hA (fun _ => rfl) c1 rfl (z_cb1 c2) hrc hrs hd (fun q cA H1 hK1 p1 p2 p3 => ?_)
        exact key q cA H1 (Option.some.inj ((show s.vm.findClass _ = some cA from z_last hK1).symm.trans (show s.vm.findClass _ = some (dA 1) from (hK.2 1 _ rfl).2))) p1 p2 p3
    · cases hs
theorem z_anew (hx : p.tables.exec = Jvm.exec) (hb : c.code = cc) (hts : ∀ w ∈ zT, w.before args s = true) (hown : s.vm.findClass own = some m.cls) (hK : va_K D cl (ztys dA) s) (hG2 : zG2 E ad A s s.heap) {h h' : zH} (hP : va_P D cl (zw dA ad h) H) (hD : va_D A (zw dA ad h)) (hS : va_S A s.heap H locs) (hA : ∀ q, s.heap.size ≤ q → A q) {nL : Nat} {L : List Value} (hl : zLv ad ls nL L)
    {i a : Nat} {st st' : List Value} (hs : zanew a L st h = some (st', h')) (hd : decode cc pc = .ok (.anewarray i, 3)) (ho : zoka cl E zT own (.anewarray i) a) (hrc : cells + (h'.length - h.length) ≤ R.cells) (hrs : slots + (zslots h' - zslots h) ≤ R.slots)
    (k : ∀ ad' H1, (∀ i, i < h.length ∨ h'.length ≤ i → ad' i = ad i) → h'.length ≤ 9000 → va_P D cl (zw dA ad' h') H1 → va_D A (zw dA ad' h') → va_S A s.heap H1 locs → zLv ad' ls nL L → W p l e R s m args below meth c H1 locs (cells + (h'.length - h.length)) (slots + (zslots h' - zslots h)) Q (F0 m (pc + 3) ls (st'.map (zv ad')))) : W p l e R s m args below meth c H locs cells slots Q (F0 m pc ls (st.map (zv ad))) := by
  unfold zanew at hs
  split at hs
  case h_2 => cases hs
  case h_1 n st0 =>
    split at hs
    · rename_i hc
      obtain ⟨c1, c2, c3⟩ := hc
      cases hs
      have e1 : (h ++ [Sum.inr (a, List.replicate n.toNatClampNeg .null)] : zH).length - h.length = 1 := by simp
      have e2 : zslots (h ++ [Sum.inr (a, List.replicate n.toNatClampNeg .null)]) - zslots h = n.toNatClampNeg := by rw [zslots_app]; simp [zslots]
      rw [e1] at hrc
      rw [e2] at hrs
      have hb4 : n.toNatClampNeg * 4 ≤ 536870912 := Nat.le_trans (Nat.mul_le_mul_right _ c2) (by decide)
      have key : ∀ (q : Nat) (cA : ClassId) (H1 : Heap), ¬ a < 50 → cA = dA a → va_P D cl (zw dA ad h ++ [(q, .inl (cA, n.toNatClampNeg, .inr (.inr (.inr (.inr (fun _ => none))))))]) H1 → va_D A (zw dA ad h ++ [(q, .inl (cA, n.toNatClampNeg, .inr (.inr (.inr (.inr (fun _ => none))))))]) → va_S A s.heap H1 locs → W p l e R s m args below meth c H1 locs (cells + 1) (slots + n.toNatClampNeg) Q (F0 m (pc + 3) ls (.ref q :: st0.map (zv ad))) := by
        intro q cA H1 ha hcA p1 p2 p3
        subst hcA
        obtain ⟨g1, g2, g3, g4, g5, g6, g7⟩ := z_one (ls := ls) (e' := .inr (a, List.replicate n.toNatClampNeg .null)) (st := st0) c3 hl (by simp only [ze, ha, if_false, z_repn, List.length_replicate]) p1 p2
        have := k (va_up ad h.length q) H1 (by simpa using g5) (by simpa using g7) g1 g2 p3 g3
        rw [e1, e2] at this
        simpa [zv, g6, g4] using this
      have same : ∀ (C : String) (cA : ClassId) (j : Nat), (ztys dA)[j]? = some (dA a, .object C) → va_K D cl (ztys dA ++ [(cA, .object C)]) s → cA = dA a := by
        intro C cA j hj hK1
        obtain ⟨_, _, _, _, _, u4⟩ := z_last hK1
        obtain ⟨_, _, _, _, _, w4⟩ := (hK.2 j _ hj).2
        exact Option.some.inj (u4.symm.trans w4)
      rcases ho with ⟨rfl, ho⟩ | ⟨rfl, ho⟩ | ⟨rfl, ho⟩
      · exact va_newq hx hb hown (hts _ ho) (hG2.1 _ (Or.inl rfl)) hK hP hD hS hA c1 rfl hb4 hrc hrs hd (fun q cA H1 hK1 p1 p2 p3 => key q cA H1 (by decide) (same _ cA 3 rfl hK1) p1 p2 p3)
      · exact va_newq hx hb hown (hts _ ho) (hG2.1 _ (Or.inr (Or.inl rfl))) hK hP hD hS hA c1 rfl hb4 hrc hrs hd (fun q cA H1 hK1 p1 p2 p3 => key q cA H1 (by decide) (same _ cA 4 rfl hK1) p1 p2 p3)
      · exact va_newq hx hb hown (hts _ ho) (hG2.1 _ (Or.inr (Or.inr rfl))) hK hP hD hS hA c1 rfl hb4 hrc hrs hd (fun q cA H1 hK1 p1 p2 p3 => key q cA H1 (by decide) (same _ cA 5 rfl hK1) p1 p2 p3)
    · cases hs
end ZV
