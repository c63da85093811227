/-! The law's walk out of a run of the interpreter. -/
section S4
variable {p : Program} {e : Env} {s : State} {m : MethodId} {below : List Frame} {meth : Method} {c : Code}
theorem zs_G2 {args : Array Value} {A : Nat → Prop} {adE adK adV : Nat → Nat} {tv ta tf b : Nat} {ys : List Int32} {v0 : Value} (hts : ∀ w ∈ lw_tbl, w.before args s = true) {cell : Cell} (h1 : s.heap[tv]? = some cell) (h2 : cell.vm.isStatics = false) (h3 : cell.vm ≠ .unknown) (h4 : s.vm.findClass "[LPeaceRing$Word;" = some cell.cls) (h5 : cell.slots = ((List.range 32).map (fun i => Value.ref (adE i))).toArray) (h6 : ¬ A tv) :
    zG2 (zE0 ys v0) (zad adE adK adV tv ta tf b) A s s.heap := by
  have e0 : zad adE adK adV tv ta tf b 10300 = tv := by simp [zad]
  refine ⟨fun C hC => ?_, hts _ zw_ao3, va_Nw.of rfl (hts _ zw_cl), fun vs hvs => ?_⟩
  · rcases hC with rfl | rfl | rfl
    · exact va_AO.of (hts _ zw_ao0)
    · exact va_AO.of (hts _ zw_ao1)
    · exact va_AO.of (hts _ zw_ao2)
  · have hvs' : zdf 100 = some vs := hvs
    unfold zdf at hvs'
    rw [if_pos rfl] at hvs'
    cases hvs'
    refine ⟨fun v hv => ?_, cell, by rw [e0]; exact h1, h2, h3, h4, ?_, by rw [e0]; exact h6⟩
    · obtain ⟨i, -, rfl⟩ := List.mem_map.mp hv
      exact ⟨10000 + i, Nat.le_add_right _ _, rfl⟩
    · rw [h5, List.map_map]
      refine congrArg List.toArray (List.map_congr_left fun i hi => ?_)
      show Value.ref (adE i) = Value.ref (zad adE adK adV tv ta tf b (10000 + i))
      rw [zad_E (List.mem_range.mp hi)]
theorem zs_K {args : Array Value} (hts : ∀ w ∈ lw_tbl, w.before args s = true) : ∃ (D : va_G) (dA : Nat → ClassId), va_K D zcl (ztys dA) s := by
  have htz : ∀ w ∈ zT, w.before args s = true := fun w hw => hts w (List.mem_filter.mp hw).1
  have hin : ∀ (k : Nat) (q : vw_C), zcl[k]? = some q → Jvm.Cond.instantiable q.1 q.2.2 ∈ zT := zcl_inst
  have h0 : ∀ k : Nat, ∃ z : ClassId × (Nat → Nat), ∀ q, zcl[k]? = some q → u_Kn s q.1 q.2.1 q.2.2 z.1 z.2 := by
    intro k
    cases hk : zcl[k]? with
    | none => exact ⟨(0, fun _ => 0), fun q hq => by cases hq⟩
    | some q =>
      obtain ⟨C, T, N⟩ := q
      obtain ⟨-, w1, -, -⟩ := zokc_ok.1 k C T N hk
      obtain ⟨cC, iS, hKn⟩ := u_known (C := C) (T := T) (N := N) (n := N) htz w1 (htz _ (hin k _ hk))
      exact ⟨(cC, iS), fun q hq => by cases hq; exact hKn⟩
  obtain ⟨f, hf⟩ := Classical.axiomOfChoice h0
  have arr : ∀ (cA : ClassId) (ty : FieldType) (k : Class) (comp : ClassId), s.vm.classes[cA]? = some k → k.kind = .array comp ty → ArrOfT s cA ty := by
    intro cA ty k comp h1 h2 n z
    exact ⟨(fun q hq => by cases hq), k, h1, comp, h2⟩
  have pi : ∀ ty, Jvm.Cond.arrayClass ty ∈ lw_tbl → ∃ cA, ArrOfT s cA ty ∧ s.vm.findClass ("[" ++ ty.toString) = some cA := by
    intro ty hw
    obtain ⟨cA, k, comp, a1, a2, a3⟩ := Cond.arrayClass_spec (hts _ hw)
    exact ⟨cA, arr cA ty k comp a2 a3, a1⟩
  have po : ∀ C, Jvm.Cond.arrayOver (.object C) ∈ lw_tbl → ∃ cA, ArrOfT s cA (.object C) ∧ va_RA s cA (.object C) := by
    intro C hw
    obtain ⟨comp, cA, k, a1, a2, a3, a4, a5⟩ := Cond.arrayOver_spec (hts _ hw)
    exact ⟨cA, arr cA _ k comp a3 a4, k, comp, a3, a4, a1, a5⟩
  obtain ⟨c0, x0, y0⟩ := pi .int (List.mem_filter.mp zai_ok).1
  obtain ⟨c1, x1, y1⟩ := pi .byte (List.mem_filter.mp zab_ok).1
  obtain ⟨comp, c50, k50, z1, z2, z3, z4, z5⟩ := zm_over (hts _ zw_ao3)
  obtain ⟨c51, x51, y51⟩ := po _ zw_ao0
  obtain ⟨c52, x52, y52⟩ := po _ zw_ao1
  obtain ⟨c53, x53, y53⟩ := po _ zw_ao2
  refine ⟨(fun k => (f k).1, fun k => (f k).2), fun t => if t = 0 then c0 else if t = 1 then c1 else if t = 50 then c50 else if t = 51 then c51 else if t = 52 then c52 else c53, fun k q hq => hf k q hq, fun k q hq => ?_⟩
  match k, hq with
  | 0, hq => cases hq; exact ⟨x0, y0⟩
  | 1, hq => cases hq; exact ⟨x1, y1⟩
  | 2, hq => cases hq; exact ⟨arr c50 _ k50 comp z3 z4, z5⟩
  | 3, hq => cases hq; exact ⟨x51, y51⟩
  | 4, hq => cases hq; exact ⟨x52, y52⟩
  | 5, hq => cases hq; exact ⟨x53, y53⟩
  | k + 6, hq => simp [ztys] at hq
/-- the law's end -/
theorem z_start (l : Launch) {b L : Nat} {xs : Nat → Int32} (C0 : lw_At p s m meth c b L xs) (hnm : meth.name = x.name)
    (hrun : ∀ v0 : Value, v0 = .null ∨ v0 = .ref 10301 → ∃ n h', zexec (zPof zprog zpool) (zMof zprog) (zE0 ((List.range L).map xs) v0) n 200 0 0 (zent 4 [.ref 10303]) [] [] = some (some (.int 1), h') ∧ h'.length ≤ 9000 ∧ zslots h' ≤ 7000000) :
    W p l e room_1 s m #[Value.ref b] below meth c s.heap [] 0 0 (lw_Z below #[Value.ref b] s) (entryFrame m ([Value.ref b] : List Value).toArray 4) := by
  obtain ⟨hx, hb, hr, hml, hown, hts, hX, hbl, hlocks, hgv⟩ := id C0
  have hA : ∀ q : Nat, s.heap.size ≤ q → (fun q : Nat => s.heap.size ≤ q) q := fun _ h => h
  have hA0 : ∀ a : Nat, a < s.heap.size → ¬ (fun q : Nat => s.heap.size ≤ q) a := fun a h => Nat.not_le.mpr h
  obtain ⟨D, dA, hK⟩ := zs_K hts
  obtain ⟨adE, hE, hEi⟩ := zs_enum hgv hA0
  obtain ⟨adK, adV, hS⟩ := zs_str hgv hA0
  obtain ⟨ta, hB, hBT⟩ := zs_above hgv hA0
  obtain ⟨tv, cell, hV, v1, v2, v3, v4, v5⟩ := zs_vals hgv hA0 (fun i hi => (hE i hi).1)
  obtain ⟨vs, hvs, hvr⟩ := Cond.isRef_spec (zg_47 hgv)
  obtain ⟨tf, v0, hv0, hv1, hv2⟩ : ∃ (tf : Nat) (v0 : Value), (v0 = .null ∨ v0 = .ref 10301) ∧ vs = zv (zad adE adK adV tv ta tf b) v0 ∧ zfree 0 10000 v0 = true := by
    cases vs with
    | null => exact ⟨0, .null, Or.inl rfl, rfl, rfl⟩
    | ref t => exact ⟨t, .ref 10301, Or.inr rfl, by simp [zv, zad], rfl⟩
    | _ => cases hvr
  rw [hv1] at hvs
  obtain ⟨n, h', hz, hlen', hsl'⟩ := hrun v0 hv0
  have hTX : va_T .int b L (fun j => .int (((List.range L).map xs).getD j 0)) (fun q : Nat => s.heap.size ≤ q) s s.heap := by
    obtain ⟨scr, x1, x2, x3, x4, x5⟩ := hX
    refine ⟨scr, x1, x2, x3, by omega, by rw [x4], fun j hj => ?_, Nat.not_le.mpr hbl⟩
    rw [x5 j hj]
    congr 2
    simp [List.getD_eq_getElem?_getD, hj]
  have hG := zs_G hgv hts hA0 hE hEi hS hV hB hBT hvs hv2 hTX
  have hG2 := zs_G2 (ys := (List.range L).map xs) (v0 := v0) (ta := ta) (tf := tf) (b := b) (adK := adK) (adV := adV) hts v1 v2 v3 v4 v5 (hA0 tv (Array.getElem?_eq_some_iff.mp v1).1)
  generalize had : zad adE adK adV tv ta tf b = ad at hG hG2
  have hadb : ad 10303 = b := by rw [← had]; simp [zad]
  have hent : (entryFrame m ([Value.ref b] : List Value).toArray 4) = F0 m 0 ((lg_sl (([.ref 10303] : List Value).map (zv ad)) ++ List.replicate (4 - (lg_sl (([.ref 10303] : List Value).map (zv ad))).length) Slot.unset).toArray) (([] : List Value).map (zv ad)) := by
    have : ([Value.ref b] : List Value) = ([.ref 10303] : List Value).map (zv ad) := by simp [zv, hadb]
    rw [this, lg_entry_eq]
    rfl
  rw [hent]
  refine z_all (D := D) (dA := dA) (l := l) zokM_ok (zokP_ok ((List.range L).map xs) v0) zokc_ok n 200 0 0 (zent 4 [.ref 10303]) [] [] h' (some (.int 1)) hz p e room_1 s m _ below meth c x code maxLocals ret (fun q => s.heap.size ≤ q) ad s.heap [] _ 0 0 _ rfl ⟨hx, hb, hml, hown, fun w hw => hts w (List.mem_filter.mp hw).1, zokc_ok, hK, hA, by decide, by decide⟩ hnm (by decide) (by decide) hG hG2 ⟨by simp, ?_, ?_, va_S.rf, ?_⟩ ?_ ?_ ?_
  · intro k q h
    simp [zw] at h
  · exact ⟨fun i j p q h => by simp [zw] at h, fun k q h => by simp [zw] at h⟩
  · exact z_entry (by decide)
  · show 0 + (h'.length - 0) ≤ 600000
    omega
  · show 0 + (zslots h' - 0) ≤ 7302250
    omega
  · intro ad' H1 locs1 pcR lsR ins g1 g2 g3 g4 g5 hdR hrt
    have hins : ins = .ireturn := by
      unfold zrt at hrt
      split at hrt
      · rename_i hst
        cases hst
      · rfl
      · rename_i hst
        cases hst
      · cases hrt
    subst hins
    refine W.widen (k := 600000) (n := 7302250) (by show 0 + (h'.length - 0) ≤ 600000; omega) (by show 0 + (zslots h' - 0) ≤ 7302250; omega) ?_
    exact va_forget g5.2.2 (lw_ret hx hb hr hlocks hdR)
end S4
