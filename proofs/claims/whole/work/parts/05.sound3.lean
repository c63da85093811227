/-! What is given beside the heap, and the instructions on the heap that make no cell. -/
def zty : Nat → FieldType
  | 0 => .int
  | 1 => .byte
  | 50 => .array .int
  | 51 => .object "PeaceRing$Word"
  | 52 => .object "PeaceRing$Version"
  | _ => .object "java/lang/String"
def ztys (dA : Nat → ClassId) : List (ClassId × FieldType) := [(dA 0, zty 0), (dA 1, zty 1), (dA 50, zty 50), (dA 51, zty 51), (dA 52, zty 52), (dA 53, zty 53)]
/-- names of statics, of given objects' fields, numbers of strings -/
abbrev zNm : Type := (Nat → Option (String × String × String)) × (Nat → Nat → Option (String × String × String)) × (String → Nat → Option Nat)
def zG (E : zS) (F : zNm) (zN : List Jvm.Cond) (ad : Nat → Nat) (A : Nat → Prop) (U : State) (H : Heap) : Prop :=
  (∀ a v, E.1 a = some v → zfree 0 10000 v = true ∧ ∃ C n d, F.1 a = some (C, n, d) ∧ va_Z C n d (zv ad v) A U H) ∧
  (∀ k a b v, E.2.1 k a b = some v → 10000 ≤ k ∧ zfree 0 10000 v = true ∧ ∃ o n d, F.2.1 a b = some (o, n, d) ∧ va_OF o n d (zv ad v) (ad k) A U H) ∧
  (∀ k t xs, E.2.2.1 k = some (t, xs) → 10000 ≤ k ∧ (t = 0 ∨ t = 1) ∧ va_T (zty t) (ad k) xs.length (fun j => .int (xs.getD j 0)) A U H) ∧
  (∀ x y, zisE E x = true → zisE E y = true → ad x = ad y → x = y) ∧
  (∀ x, zisE E x = true → va_O "PeaceRing$Word" (ad x) A U H) ∧
  (∀ x, zisS E x = true → va_O "java/lang/String" (ad x) A U H) ∧
  (∀ own i x, F.2.2 own i = some x → 10000 ≤ x ∧ ∃ tx, vk_R own i tx (ad x) U) ∧
  (∀ w ∈ zN, va_Nw w U)
def zlk (zT zN : List Jvm.Cond) (own : String) (i : Nat) (o n d : String) : Prop := Jvm.Cond.fieldLink own i o n d ∈ zT ∨ ∃ host, Jvm.Cond.fieldLinkNest own i o n d host ∈ zN
/-- what the tables must say for an instruction on the heap that makes no cell -/
def zokh (cl : List vw_C) (F : zNm) (zT zN : List Jvm.Cond) (own mname : String) : Instr → Nat → Nat → Int → Prop
  | .getfield i, a, b, _ => (a < 40 → ∃ C T N, cl[a]? = some (C, T, N) ∧ b < N ∧ zlk zT zN own i (T b).1 (T b).2.1 (T b).2.2.1) ∧ (¬ a < 40 → ∃ o n d, F.2.1 a b = some (o, n, d) ∧ zlk zT zN own i o n d)
  | .putfield i, a, b, c => ∃ C T N ty, cl[a]? = some (C, T, N) ∧ b < N ∧ parseFieldDescriptor (T b).2.2.1 = some ty ∧ (∀ (ad : Nat → Nat) v, zfits c v = true → narrow ty (zv ad v) = zv ad v ∧ fits ty (zv ad v) = true) ∧
      (((T b).2.2.2 = false ∧ zlk zT zN own i (T b).1 (T b).2.1 (T b).2.2.1) ∨ ((T b).2.2.2 = true ∧ mname = "<init>" ∧ (T b).1 = own ∧ Jvm.Cond.fieldLink own i (T b).1 (T b).2.1 (T b).2.2.1 ∈ zT))
  | .getstatic i, a, _, _ => ∃ C n d, F.1 a = some (C, n, d) ∧ zlk zT zN own i C n d
  | .ldc i, a, _, c => (a = 0 → Jvm.Cond.constant own i (Int32.ofInt c) ∈ zT) ∧ (a = 1 → F.2.2 own i = some c.toNat)
  | .ldc_w i, a, _, c => (a = 0 → Jvm.Cond.constant own i (Int32.ofInt c) ∈ zT) ∧ (a = 1 → F.2.2 own i = some c.toNat)
  | .ldc2_w i, _, _, c => Jvm.Cond.constantLong own i (Int64.ofInt c) ∈ zT
  | .checkcast i, _, _, _ => Jvm.Cond.classLink own i "[LPeaceRing$Word;" ∈ zT
  | _, _, _, _ => True
/-- what the tables say of the classes -/
def zokc (cl : List vw_C) (zT zN : List Jvm.Cond) : Prop := (∀ (a : Nat) (C : String) (T : u_T) (N : Nat), cl[a]? = some (C, T, N) → a < 40 ∧ (∀ w ∈ u_ws C T N, w ∈ zT) ∧ (∃ ty : Nat → FieldType, ∀ k, k < N → parseFieldDescriptor (T k).2.2.1 = some (ty k)) ∧ (∀ a, a < N → ∀ b, b < N → a ≠ b → (T a).2.1 ≠ (T b).2.1)) ∧ (∀ w ∈ zN, w.onTables = true ∧ ∀ s U : State, s.WarmedH U.vm → va_Nw w s → va_Nw w U) ∧ ∃ T N, cl[8]? = some ("PeaceRing$Version", T, N)
section ZU
variable {p : Program} {l : Launch} {e : Env} {R : Room} {s : State} {m : MethodId} {args : Array Value} {below : List Frame} {meth : Method} {c : Code} {H : Heap} {locs : List Loc} {cells slots : Nat} {Q : State → Prop}
variable {cc : ByteArray} {pc : Nat} {ls : Array Slot} {ad : Nat → Nat} {dA : Nat → ClassId} {D : va_G} {cl : List vw_C} {zT zN : List Jvm.Cond} {E : zS} {F : zNm} {A : Nat → Prop} {own : String}
theorem zs_in {i : Int32} {n j : Nat} (h : zix i n = some j) : vp_in i n ∧ i.toNatClampNeg = j ∧ j < n := by
  unfold zix at h
  split at h
  · cases h
  · rename_i hc
    cases h
    exact ⟨hc, rfl, Nat.not_le.mp fun q => hc (Or.inr q)⟩
theorem zs_lt {h : zH} {k : Nat} {e : zE} (hk : h[k]? = some e) : k < h.length := (List.getElem?_eq_some_iff.mp hk).1
theorem z_getf (hx : p.tables.exec = Jvm.exec) (hb : c.code = cc) (hts : ∀ w ∈ zT, w.before args s = true) (hown : s.vm.findClass own = some m.cls) (hC : zokc cl zT zN) (hK : va_K D cl (ztys dA) s) (hG : zG E F zN ad A s s.heap) {h h' : zH} (hP : va_P D cl (zw dA ad h) H) (hS : va_S A s.heap H locs)
    {i a b : Nat} {cI : Int} {mname : String} {st st' : List Value} (hs : zgetf E a b st h = some (st', h')) (hd : decode cc pc = .ok (.getfield i, 3)) (ho : zokh cl F zT zN own mname (.getfield i) a b cI)
    (k : h' = h → W p l e R s m args below meth c H locs cells slots Q (F0 m (pc + 3) ls (st'.map (zv ad)))) : W p l e R s m args below meth c H locs cells slots Q (F0 m pc ls (st.map (zv ad))) := by
  unfold zgetf at hs
  split at hs
  case h_2 => cases hs
  case h_1 q st0 =>
    split at hs
    · rename_i ha
      obtain ⟨C, T, N, h1, h2, h3⟩ := ho.1 ha
      split at hs
      · rename_i ci fs hq
        split at hs
        · rename_i hca
          subst hca
          rw [Option.map_eq_some_iff] at hs
          obtain ⟨v, hv, hv2⟩ := hs
          cases hv2
          have hw := zw_get (dA := dA) (ad := ad) hq
          have hlt : ci < 50 := by omega
          simp only [ze, hlt, if_true] at hw
          have hv' : (fs.map (zv ad))[b]? = some (zv ad v) := by rw [List.getElem?_map, hv]; rfl
          rcases h3 with h3 | ⟨host, h3⟩
          · exact va_get hx hb hts (hC.1 _ _ _ _ h1).2.1 hown hK hP q hw h1 b h2 (hts _ h3) (fun _ z => z) hv' hd (k rfl)
          · exact va_getN hx hb hts (hC.1 _ _ _ _ h1).2.1 hown hK hP q hw h1 b h2 (va_Nw.use (hC.2.1 _ h3).1 (hG.2.2.2.2.2.2.2 _ h3)) (fun _ z => z) hv' hd (k rfl)
        · cases hs
      · cases hs
    · rename_i ha
      obtain ⟨o, n, d, h1, h2⟩ := ho.2 ha
      rw [Option.map_eq_some_iff] at hs
      obtain ⟨v, hv, hv2⟩ := hs
      cases hv2
      obtain ⟨-, -, o', n', d', h1', h3⟩ := hG.2.1 _ _ _ _ hv
      rw [h1] at h1'
      cases h1'
      rcases h2 with h2 | ⟨host, h2⟩
      · exact vk_getf hx hb h3 hS hown (hts _ h2) (fun _ z => z) hd (k rfl)
      · obtain ⟨cf, kf, fi, f, cell, g1, g2, g3, g4, g5, g6⟩ := h3.kept hS.2.1
        exact va_Wgetf hx hb hown (va_Nw.use (hC.2.1 _ h2).1 (hG.2.2.2.2.2.2.2 _ h2)) g1 g2 g3 g4 (v := zv ad v) g5 rfl rfl hd (k rfl)
theorem z_fs_set {fs : List Value} {b : Nat} {v : Value} : (fs.map (zv ad)).set b (zv ad v) = (fs.set b v).map (zv ad) := by
  rw [List.map_set]
/-- the kit's row behind a write, in this text's words -/
theorem z_wr {h : zH} {q : Nat} {e' : zE} {x : Nat × va_E} (hxe : x = (ad q, ze dA ad e')) {H1 : Heap} (h1 : va_P D cl ((zw dA ad h).set q x) H1) (h2 : va_D A ((zw dA ad h).set q x)) : va_P D cl (zw dA ad (h.set q e')) H1 ∧ va_D A (zw dA ad (h.set q e')) := by
  subst hxe
  rw [zw_set] at h1 h2
  exact ⟨h1, h2⟩
theorem z_putf (hx : p.tables.exec = Jvm.exec) (hb : c.code = cc) (hts : ∀ w ∈ zT, w.before args s = true) (hown : s.vm.findClass own = some m.cls) (hC : zokc cl zT zN) (hK : va_K D cl (ztys dA) s) (hG : zG E F zN ad A s s.heap) {h h' : zH} (hP : va_P D cl (zw dA ad h) H) (hD : va_D A (zw dA ad h)) (hS : va_S A s.heap H locs)
    {i a b : Nat} {cI : Int} {st st' : List Value} (hs : zputf a b cI st h = some (st', h')) (hd : decode cc pc = .ok (.putfield i, 3)) (ho : zokh cl F zT zN own meth.name (.putfield i) a b cI)
    (k : ∀ H1 locs1, va_P D cl (zw dA ad h') H1 → va_D A (zw dA ad h') → va_S A s.heap H1 locs1 → W p l e R s m args below meth c H1 locs1 cells slots Q (F0 m (pc + 3) ls (st'.map (zv ad)))) : W p l e R s m args below meth c H locs cells slots Q (F0 m pc ls (st.map (zv ad))) := by
  obtain ⟨C, T, N, ty, h1, h2, h3, h4, h5⟩ := ho
  obtain ⟨-, g1, ⟨ty0, g2⟩, g3⟩ := hC.1 _ _ _ _ h1
  unfold zputf at hs
  split at hs
  case h_2 => cases hs
  case h_1 v q st0 =>
    split at hs
    · rename_i ci fs hq
      split at hs
      · rename_i hc
        obtain ⟨rfl, hlt40, hlen, hfit⟩ := hc
        cases hs
        have hw := zw_get (dA := dA) (ad := ad) hq
        have hlt : ci < 50 := by omega
        simp only [ze, hlt, if_true] at hw
        have hxe : (ad q, (Sum.inr (ci, (fs.map (zv ad)).set b (zv ad v)) : va_E)) = (ad q, ze dA ad (.inr (ci, fs.set b v))) := by
          simp only [ze, hlt, if_true, z_fs_set]
        have hfl : b < (fs.map (zv ad)).length := by simpa using hlen
        rcases h5 with ⟨h5, h6 | ⟨host, h6⟩⟩ | ⟨h5, h6, h7, h8⟩
        · exact va_put hx hb hts g1 ty0 g2 g3 hown hK hP hD hS q hw h1 b h2 (hts _ h6) (fun _ z => z) h5 h3 (h4 ad v hfit).1 (h4 ad v hfit).2 hfl hd (fun H1 locs1 p1 p2 p3 => by
            obtain ⟨p1, p2⟩ := z_wr hxe p1 p2
            exact k H1 locs1 p1 p2 p3)
        · exact va_putN hx hb hts g1 ty0 g2 g3 hown hK hP hD hS q hw h1 b h2 (va_Nw.use (hC.2.1 _ h6).1 (hG.2.2.2.2.2.2.2 _ h6)) (fun _ z => z) h5 h3 (h4 ad v hfit).1 (h4 ad v hfit).2 hfl hd (fun H1 locs1 p1 p2 p3 => by
            obtain ⟨p1, p2⟩ := z_wr hxe p1 p2
            exact k H1 locs1 p1 p2 p3)
        · exact va_putF hx hb hts g1 ty0 g2 g3 hown hK hP hD hS q hw h1 b h2 (hts _ h8) (fun _ z => z) h5 h6 h7 h3 (h4 ad v hfit).1 (h4 ad v hfit).2 hfl hd (fun H1 locs1 p1 p2 p3 => by
            obtain ⟨p1, p2⟩ := z_wr hxe p1 p2
            exact k H1 locs1 p1 p2 p3)
      · cases hs
    · cases hs
theorem z_ald (hx : p.tables.exec = Jvm.exec) (hb : c.code = cc) (hK : va_K D cl (ztys dA) s) (hG : zG E F zN ad A s s.heap) {h h' : zH} (hP : va_P D cl (zw dA ad h) H) (hS : va_S A s.heap H locs)
    {t : Nat} {ins : Instr} (hi : (t = 0 ∧ ins = .iaload) ∨ (t = 1 ∧ ins = .baload)) {st st' : List Value} (hs : zald E t st h = some (st', h')) (hd : decode cc pc = .ok (ins, 1))
    (k : h' = h → W p l e R s m args below meth c H locs cells slots Q (F0 m (pc + 1) ls (st'.map (zv ad)))) : W p l e R s m args below meth c H locs cells slots Q (F0 m pc ls (st.map (zv ad))) := by
  unfold zald at hs
  split at hs
  case h_2 => cases hs
  case h_1 i q st0 =>
    split at hs
    · rename_i t' xs hq
      split at hs
      · rename_i htt
        subst htt
        rw [Option.map_eq_some_iff] at hs
        obtain ⟨j, hj, hv2⟩ := hs
        cases hv2
        obtain ⟨hin, rfl, hjl⟩ := zs_in hj
        unfold zarr at hq
        split at hq
        · obtain ⟨-, -, hT⟩ := hG.2.2.1 _ _ _ hq
          rcases hi with ⟨rfl, rfl⟩ | ⟨rfl, rfl⟩
          · exact va_ti hx hb hT hS hin rfl hd (k rfl)
          · exact va_tb hx hb hT hS hin rfl hd (k rfl)
        · split at hq
          · rename_i x hk
            cases hq
            have hw := zw_get (dA := dA) (ad := ad) hk
            rcases hi with ⟨rfl, rfl⟩ | ⟨rfl, rfl⟩
            · exact va_iald hx hb hK hP q 0 hw rfl hin hd (k rfl)
            · exact va_bald hx hb hK hP q 1 hw rfl hin hd (k rfl)
          · cases hq
      · cases hs
    · cases hs
theorem z_upd {xs : List Int32} {j : Nat} {x : Int32} (hj : j < xs.length) : upd (fun j => xs.getD j 0) j x = fun i => (xs.set j x).getD i 0 := by
  funext i
  show (if i = j then x else xs.getD i 0) = (xs.set j x).getD i 0
  rw [List.getD_eq_getElem?_getD, List.getD_eq_getElem?_getD, List.getElem?_set]
  by_cases hi : i = j
  · subst hi
    simp [hj]
  · rw [if_neg hi, if_neg (fun q => hi q.symm)]
theorem z_ast (hx : p.tables.exec = Jvm.exec) (hb : c.code = cc) (hK : va_K D cl (ztys dA) s) {h h' : zH} (hP : va_P D cl (zw dA ad h) H) (hD : va_D A (zw dA ad h)) (hS : va_S A s.heap H locs)
    {t : Nat} {ins : Instr} (hi : (t = 0 ∧ ins = .iastore) ∨ (t = 1 ∧ ins = .bastore)) {st st' : List Value} (hs : zast t st h = some (st', h')) (hd : decode cc pc = .ok (ins, 1))
    (k : ∀ H1 locs1, va_P D cl (zw dA ad h') H1 → va_D A (zw dA ad h') → va_S A s.heap H1 locs1 → W p l e R s m args below meth c H1 locs1 cells slots Q (F0 m (pc + 1) ls (st'.map (zv ad)))) : W p l e R s m args below meth c H locs cells slots Q (F0 m pc ls (st.map (zv ad))) := by
  unfold zast at hs
  split at hs
  case h_2 => cases hs
  case h_1 x i q st0 =>
    split at hs
    · rename_i t' xs hq
      split at hs
      · rename_i htt
        subst htt
        rw [Option.map_eq_some_iff] at hs
        obtain ⟨j, hj, hv2⟩ := hs
        cases hv2
        obtain ⟨hin, rfl, hjl⟩ := zs_in hj
        have hw := zw_get (dA := dA) (ad := ad) hq
        rcases hi with ⟨rfl, rfl⟩ | ⟨rfl, rfl⟩
        · refine va_iast hx hb hK hP hD hS q 0 hw rfl hin hd (fun H1 locs1 p1 p2 p3 => ?_)
          obtain ⟨p1, p2⟩ := z_wr (e' := .inl (0, xs.set i.toNatClampNeg x)) (by simp only [ze, z_upd hjl, List.length_set]) p1 p2
          exact k H1 locs1 p1 p2 p3
        · refine va_bast hx hb hK hP hD hS q 1 hw rfl hin hd (fun H1 locs1 p1 p2 p3 => ?_)
          obtain ⟨p1, p2⟩ := z_wr (e' := .inl (1, xs.set i.toNatClampNeg x.toInt8.toInt32)) (by simp only [ze, z_upd hjl, List.length_set, vp_nar_byte]) p1 p2
          exact k H1 locs1 p1 p2 p3
      · cases hs
    · cases hs
theorem z_alen (hx : p.tables.exec = Jvm.exec) (hb : c.code = cc) (hK : va_K D cl (ztys dA) s) (hG : zG E F zN ad A s s.heap) {h h' : zH} (hP : va_P D cl (zw dA ad h) H) (hS : va_S A s.heap H locs)
    {st st' : List Value} (hs : zalen E st h = some (st', h')) (hd : decode cc pc = .ok (.arraylength, 1))
    (k : h' = h → W p l e R s m args below meth c H locs cells slots Q (F0 m (pc + 1) ls (st'.map (zv ad)))) : W p l e R s m args below meth c H locs cells slots Q (F0 m pc ls (st.map (zv ad))) := by
  unfold zalen at hs
  split at hs
  case h_2 => cases hs
  case h_1 q st0 =>
    split at hs
    · rename_i t xs hq
      split at hs
      case isFalse => cases hs
      rename_i ht1
      cases hs
      unfold zarr at hq
      split at hq
      · obtain ⟨-, -, hT⟩ := hG.2.2.1 _ _ _ hq
        exact va_tlen hx hb hT hS rfl hd (k rfl)
      · split at hq
        · rename_i x hk
          cases hq
          have hw := zw_get (dA := dA) (ad := ad) hk
          rcases (show t = 0 ∨ t = 1 by omega) with rfl | rfl
          · exact va_alen hx hb hK hP q 0 hw rfl rfl hd (k rfl)
          · exact va_alen hx hb hK hP q 1 hw rfl rfl hd (k rfl)
        · cases hq
    · split at hs
      · rename_i t vs hk
        split at hs
        · rename_i ht
          cases hs
          have hw := zw_get (dA := dA) (ad := ad) hk
          have hlt : ¬ t < 50 := by omega
          simp only [ze, hlt, if_false] at hw
          rcases (show t = 50 ∨ t = 51 ∨ t = 52 ∨ t = 53 by omega) with rfl | rfl | rfl | rfl
          · exact va_alen hx hb hK hP q 2 hw rfl rfl hd (k rfl)
          · exact va_alen hx hb hK hP q 3 hw rfl rfl hd (k rfl)
          · exact va_alen hx hb hK hP q 4 hw rfl rfl hd (k rfl)
          · exact va_alen hx hb hK hP q 5 hw rfl rfl hd (k rfl)
        · cases hs
      · cases hs
theorem z_aald (hx : p.tables.exec = Jvm.exec) (hb : c.code = cc) (hK : va_K D cl (ztys dA) s) {h h' : zH} (hP : va_P D cl (zw dA ad h) H)
    {st st' : List Value} (hs : zaald st h = some (st', h')) (hd : decode cc pc = .ok (.aaload, 1))
    (k : h' = h → W p l e R s m args below meth c H locs cells slots Q (F0 m (pc + 1) ls (st'.map (zv ad)))) : W p l e R s m args below meth c H locs cells slots Q (F0 m pc ls (st.map (zv ad))) := by
  unfold zaald at hs
  split at hs
  case h_2 => cases hs
  case h_1 i q st0 =>
    split at hs
    · rename_i t vs hk
      split at hs
      · rename_i ht
        rw [Option.bind_eq_some_iff] at hs
        obtain ⟨j, hj, hv2⟩ := hs
        obtain ⟨hin, rfl, hjl⟩ := zs_in hj
        split at hv2
        · rename_i x hxv
          cases hv2
          have hw := zw_get (dA := dA) (ad := ad) hk
          have hlt : ¬ t < 50 := by omega
          simp only [ze, hlt, if_false] at hw
          have hv : (fun j => zo ad (vs.getD j .null)) i.toNatClampNeg = some (ad x) := by simp only [hxv, zo]
          have key : ∀ (t0 : Nat) (ty : FieldType), (ztys dA)[t0]? = some (dA t, ty) → ty.isReference = true → W p l e R s m args below meth c H locs cells slots Q (F0 m pc ls (.int i :: .ref (ad q) :: st0.map (zv ad))) := by
            intro t0 ty ht0 hr
            refine W.aald (v := va_rf (zo ad (vs.getD i.toNatClampNeg .null))) (ty := ty) hx hb (hP q _ hw) ((hK.2 t0 _ ht0).1 vs.length (fun j => va_rf (zo ad (vs.getD j .null)))) hr (fun q => by cases q) (by show ¬ (i < 0 ∨ (arrV _ _ _).slots.size ≤ _); rw [arrV_size]; exact hin) (by show (arrV _ _ _).slots[_]? = _; rw [arrV_read _ _ hjl]) rfl rfl hd ?_
            rw [hxv]
            exact k rfl
          rcases (show t = 50 ∨ t = 51 ∨ t = 52 ∨ t = 53 by omega) with rfl | rfl | rfl | rfl
          · exact key 2 _ rfl rfl
          · exact key 3 _ rfl rfl
          · exact key 4 _ rfl rfl
          · exact key 5 _ rfl rfl
        · cases hv2
      · cases hs
    · cases hs
theorem z_upo {vs : List Value} {j x : Nat} (hj : j < vs.length) : va_up (fun j => zo ad (vs.getD j .null)) j (some (ad x)) = fun i => zo ad ((vs.set j (.ref x)).getD i .null) := by
  funext i
  show (if i = j then some (ad x) else zo ad (vs.getD i .null)) = zo ad ((vs.set j (.ref x)).getD i .null)
  rw [List.getD_eq_getElem?_getD, List.getD_eq_getElem?_getD, List.getElem?_set]
  by_cases hi : i = j
  · subst hi
    simp [hj, zo]
  · rw [if_neg hi, if_neg (fun q => hi q.symm)]
theorem z_any {C : String} {x : Nat} (hO : va_O C x A s s.heap) (hS : va_S A s.heap H locs) : va_Any C s H x := by
  obtain ⟨cell, h1, h2, h3⟩ := va_Orecv hO hS
  obtain ⟨kC, hkC, -⟩ := Vm.findClass_spec h3
  refine ⟨cell, h1, h2, ⟨kC, hkC⟩, fun comp h => ?_⟩
  rw [h3] at h
  cases h
  exact va_asg _ _
theorem z_aast (hx : p.tables.exec = Jvm.exec) (hb : c.code = cc) (hC : zokc cl zT zN) (hK : va_K D cl (ztys dA) s) (hG : zG E F zN ad A s s.heap) {h h' : zH} (hP : va_P D cl (zw dA ad h) H) (hD : va_D A (zw dA ad h)) (hS : va_S A s.heap H locs)
    {st st' : List Value} (hs : zaast E st h = some (st', h')) (hd : decode cc pc = .ok (.aastore, 1))
    (k : ∀ H1 locs1, va_P D cl (zw dA ad h') H1 → va_D A (zw dA ad h') → va_S A s.heap H1 locs1 → W p l e R s m args below meth c H1 locs1 cells slots Q (F0 m (pc + 1) ls (st'.map (zv ad)))) : W p l e R s m args below meth c H locs cells slots Q (F0 m pc ls (st.map (zv ad))) := by
  unfold zaast at hs
  split at hs
  case h_2 => cases hs
  case h_1 x i q st0 =>
    split at hs
    · rename_i t vs hq
      split at hs
      · rename_i hc
        rw [Option.map_eq_some_iff] at hs
        obtain ⟨j, hj, hv2⟩ := hs
        cases hv2
        obtain ⟨hin, rfl, hjl⟩ := zs_in hj
        have hw := zw_get (dA := dA) (ad := ad) hq
        have hlt : ¬ t < 50 := by omega
        simp only [ze, hlt, if_false] at hw
        have hxe : (ad q, (Sum.inl (dA t, vs.length, .inr (.inr (.inr (.inr (va_up (fun j => zo ad (vs.getD j .null)) i.toNatClampNeg (some (ad x))))))) : va_E)) = (ad q, ze dA ad (.inr (t, vs.set i.toNatClampNeg (.ref x)))) := by
          simp only [ze, hlt, if_false, z_upo hjl, List.length_set]
        rcases hc with ⟨rfl, hv⟩ | ⟨rfl, hv⟩ | ⟨rfl, hv⟩
        · obtain ⟨T, N, hc8⟩ := hC.2.2
          unfold zisv at hv
          split at hv
          · rename_i fs hx8
            have hw8 := zw_get (dA := dA) (ad := ad) hx8
            refine va_astq (r := ("PeaceRing$Version", T, N)) hx hb hK hP hD hS q 4 x 8 hw rfl hw8 hc8 hin hd (fun H1 locs1 p1 p2 p3 => ?_)
            obtain ⟨p1, p2⟩ := z_wr hxe p1 p2
            exact k H1 locs1 p1 p2 p3
          · cases hv
        · refine va_astqM hx hb hK hP hD hS q 3 hw rfl (z_any (hG.2.2.2.2.1 _ hv) hS) hin hd (fun H1 locs1 p1 p2 p3 => ?_)
          obtain ⟨p1, p2⟩ := z_wr hxe p1 p2
          exact k H1 locs1 p1 p2 p3
        · refine va_astqM hx hb hK hP hD hS q 5 hw rfl (z_any (hG.2.2.2.2.2.1 _ hv) hS) hin hd (fun H1 locs1 p1 p2 p3 => ?_)
          obtain ⟨p1, p2⟩ := z_wr hxe p1 p2
          exact k H1 locs1 p1 p2 p3
      · cases hs
    · cases hs
theorem z_cast (hx : p.tables.exec = Jvm.exec) (hb : c.code = cc) (hts : ∀ w ∈ zT, w.before args s = true) (hown : s.vm.findClass own = some m.cls) (hK : va_K D cl (ztys dA) s) {h h' : zH} (hP : va_P D cl (zw dA ad h) H)
    {i a b : Nat} {cI : Int} {mname : String} {st st' : List Value} (hs : zcast a st h = some (st', h')) (hd : decode cc pc = .ok (.checkcast i, 3)) (ho : zokh cl F zT zN own mname (.checkcast i) a b cI)
    (k : h' = h → W p l e R s m args below meth c H locs cells slots Q (F0 m (pc + 3) ls (st'.map (zv ad)))) : W p l e R s m args below meth c H locs cells slots Q (F0 m pc ls (st.map (zv ad))) := by
  unfold zcast at hs
  split at hs
  case h_2 => cases hs
  case h_1 q st0 =>
    split at hs
    · rename_i t vs hk
      split at hs
      · rename_i hc
        obtain ⟨rfl, rfl⟩ := hc
        cases hs
        have hw := zw_get (dA := dA) (ad := ad) hk
        obtain ⟨kA, comp, k1, k2, k3, k4⟩ := (hK.2 3 _ rfl).2
        exact va_castA hx hb hown (hts _ ho) hP q hw k4 hd (k rfl)
      · cases hs
    · cases hs
theorem z_gets (hx : p.tables.exec = Jvm.exec) (hb : c.code = cc) (hts : ∀ w ∈ zT, w.before args s = true) (hown : s.vm.findClass own = some m.cls) (hC : zokc cl zT zN) (hG : zG E F zN ad A s s.heap) (hS : va_S A s.heap H locs)
    {h h' : zH} {i a b : Nat} {cI : Int} {mname : String} {st st' : List Value} (hs : (E.1 a).map (fun v => (v :: st, h)) = some (st', h')) (hd : decode cc pc = .ok (.getstatic i, 3)) (ho : zokh cl F zT zN own mname (.getstatic i) a b cI)
    (k : h' = h → W p l e R s m args below meth c H locs cells slots Q (F0 m (pc + 3) ls (st'.map (zv ad)))) : W p l e R s m args below meth c H locs cells slots Q (F0 m pc ls (st.map (zv ad))) := by
  obtain ⟨C, n, d, h1, h2⟩ := ho
  rw [Option.map_eq_some_iff] at hs
  obtain ⟨v, hv, hv2⟩ := hs
  cases hv2
  obtain ⟨-, C', n', d', h1', h3⟩ := hG.1 _ _ hv
  rw [h1] at h1'
  cases h1'
  rcases h2 with h2 | ⟨host, h2⟩
  · exact va_gets hx hb h3 hS hown (hts _ h2) (fun _ z => z) hd (k rfl)
  · exact va_getsN hx hb h3 hS hown (va_Nw.use (hC.2.1 _ h2).1 (hG.2.2.2.2.2.2.2 _ h2)) (fun _ z => z) hd (k rfl)
theorem z_ldc (hx : p.tables.exec = Jvm.exec) (hb : c.code = cc) (hts : ∀ w ∈ zT, w.before args s = true) (hown : s.vm.findClass own = some m.cls) (hG : zG E F zN ad A s s.heap)
    {i a b : Nat} {cI : Int} {mname : String} {st st' : List Value} (hs : zldc a cI st = some st') (hd : decode cc pc = .ok (.ldc i, 2)) (ho : zokh cl F zT zN own mname (.ldc i) a b cI)
    (k : W p l e R s m args below meth c H locs cells slots Q (F0 m (pc + 2) ls (st'.map (zv ad)))) : W p l e R s m args below meth c H locs cells slots Q (F0 m pc ls (st.map (zv ad))) := by
  unfold zldc at hs
  split at hs
  · rename_i ha
    cases hs
    exact lv_ldc hx hb hown (hts _ (ho.1 ha)) hd k
  · split at hs
    · rename_i ha
      cases hs
      obtain ⟨-, tx, hR⟩ := hG.2.2.2.2.2.2.1 _ _ _ (ho.2 ha)
      exact va_ldcS hx hb hown hR hd k
    · cases hs
/-- a string out of the pool, by the long instruction -/
theorem z_ldcws {T : State} (X : Stand p l e R s m args below meth c T locs cells slots) (hexec : p.tables.exec = Jvm.exec) {text : String} {index : Nat} {a : Addr} (hown : s.vm.findClass own = some m.cls)
    (hconst : (Cond.stringRef own index text).before args s = true) (hev : (Term.string own index).eval args s none [] s = some (.ref a)) {g : JFrame} (hg : g.method = m) (hdg : decode c.code g.pc = .ok (.ldc_w index, 3)) :
    ∀ target, Steps p.tables e below (T.setTop { g with pc := g.pc + 3, stack := .ref a :: g.stack }) target → Steps p.tables e below (T.setTop g) target := by
  obtain ⟨k, cf, i, a', hk, hcf, hcp, -, hr, hev'⟩ := Cond.stringRef_spec hown hconst
  have ea : a = a' := by
    have := hev.symm.trans hev'
    cases this
    rfl
  subst ea
  obtain ⟨k', hk', he⟩ := X.warmed.alike.2.2 _ _ hk
  have hr' : k'.resolved[index]? = some (some (.string a)) := by
    rcases X.warmed.entry hk hk' index with h | ⟨h, -⟩
    · exact h.trans hr
    · exact absurd (hr.symm.trans h) (fun q => by cases q)
  intro target hrest
  subst hg
  jvm_step X.here [hexec, hdg, ldc_w.wp_string (e := e) (s := T) (f := g) X.here.top hk' (by rw [he]; exact hcf) hcp hr']
  exact hrest
theorem z_ldcw (hx : p.tables.exec = Jvm.exec) (hb : c.code = cc) (hts : ∀ w ∈ zT, w.before args s = true) (hown : s.vm.findClass own = some m.cls) (hG : zG E F zN ad A s s.heap)
    {i a b : Nat} {cI : Int} {mname : String} {st st' : List Value} (hs : zldc a cI st = some st') (hd : decode cc pc = .ok (.ldc_w i, 3)) (ho : zokh cl F zT zN own mname (.ldc_w i) a b cI)
    (k : W p l e R s m args below meth c H locs cells slots Q (F0 m (pc + 3) ls (st'.map (zv ad)))) : W p l e R s m args below meth c H locs cells slots Q (F0 m pc ls (st.map (zv ad))) := by
  unfold zldc at hs
  split at hs
  · rename_i ha
    cases hs
    exact lv_ldcw hx hb hown (hts _ (ho.1 ha)) hd k
  · split at hs
    · rename_i ha
      cases hs
      obtain ⟨-, tx, hR⟩ := hG.2.2.2.2.2.2.1 _ _ _ (ho.2 ha)
      intro T hT X
      obtain ⟨t, a1, b1⟩ := k T hT X
      exact ⟨t, z_ldcws X hx hown hR.1 hR.2 (g := F0 m pc ls (st.map (zv ad))) rfl (by rw [hb]; exact hd) t a1, b1⟩
    · cases hs
end ZU
