/-! new int[n][k], the enum's copy, arraycopy, Object's constructor -/
theorem z_arrc {cA : ClassId} {N : Nat} {f g : Nat → Value} (h : ∀ j, j < N → f j = g j) : arrV cA N f = arrV cA N g := by
  unfold arrV
  have : (Array.ofFn (n := N) fun j => f j.val) = Array.ofFn (n := N) fun j => g j.val := by
    congr 1
    funext j
    exact h j.val j.isLt
  rw [this]
section ZX
variable {p : Program} {l : Launch} {e : Env} {R : Room} {s : State} {m : MethodId} {args : Array Value} {below : List Frame} {meth : Method} {c : Code} {H : Heap} {locs : List Loc} {cells slots : Nat} {Q : State → Prop}
variable {cc : ByteArray} {pc : Nat} {ls : Array Slot} {ad : Nat → Nat} {dA : Nat → ClassId} {D : va_G} {cl : List vw_C} {zT zN : List Jvm.Cond} {E : zS} {F : zNm} {A : Nat → Prop} {own : String}
/-- several new cells, at the heap's end -/
theorem z_many {h g : zH} {L st : List Value} {nL : Nat} {H1 : Heap} (hr : zroom g.length L st h = true) (hl : zLv ad ls nL L) (hP : va_P D cl (zw dA ad h) H) (hD : va_D A (zw dA ad h)) (hS : va_S A s.heap H locs) (hA : ∀ q, s.heap.size ≤ q → A q)
    (hz : H1.size = H.size + g.length) (hk : ∀ q, q < H.size → H1[q]? = H[q]?) (hn : ∀ (i : Nat) (x : zE), g[i]? = some x → va_at D cl (H.size + i, ze dA (fun j => if h.length ≤ j ∧ j < h.length + g.length then H.size + (j - h.length) else ad j) x) H1) :
    ∃ ad' : Nat → Nat, (∀ i, i < h.length ∨ h.length + g.length ≤ i → ad' i = ad i) ∧ va_P D cl (zw dA ad' (h ++ g)) H1 ∧ va_D A (zw dA ad' (h ++ g)) ∧ va_S A s.heap H1 locs ∧ zLv ad' ls nL L ∧ st.map (zv ad') = st.map (zv ad) ∧ (0 < g.length → ad' h.length = H.size) ∧ h.length + g.length ≤ 9000 := by
  unfold zroom at hr
  simp only [Bool.and_eq_true, decide_eq_true_eq] at hr
  obtain ⟨⟨⟨r1, r2⟩, r3⟩, r4⟩ := hr
  generalize had : (fun j => if h.length ≤ j ∧ j < h.length + g.length then H.size + (j - h.length) else ad j) = ad' at hn
  have hq : ∀ i, i < h.length ∨ h.length + g.length ≤ i → ad' i = ad i := fun i hi => by rw [← had]; exact if_neg (by omega)
  have hnew : ∀ i, i < g.length → ad' (i + h.length) = H.size + i := fun i hi => by rw [← had]; simp only; rw [if_pos (by omega)]; omega
  have hw : zw dA ad' (h ++ g) = zw dA ad h ++ g.mapIdx (fun i e => (ad' (i + h.length), ze dA ad' e)) := by rw [zw_app, zw_free r4 hq]
  have hget : ∀ (i : Nat) (q : Nat × va_E), (g.mapIdx (fun i e => (ad' (i + h.length), ze dA ad' e)))[i]? = some q → i < g.length ∧ q.1 = H.size + i ∧ ∃ x, g[i]? = some x ∧ q = (H.size + i, ze dA ad' x) := by
    intro i q hiq
    rw [List.getElem?_mapIdx] at hiq
    cases hx : g[i]? with
    | none => rw [hx] at hiq; cases hiq
    | some x =>
      rw [hx] at hiq
      cases hiq
      have hl := (List.getElem?_eq_some_iff.mp hx).1
      refine ⟨hl, hnew i hl, x, rfl, ?_⟩
      rw [hnew i hl]
  refine ⟨ad', hq, ?_, ?_, ⟨Nat.le_trans hS.1 (by omega), fun q h1 h2 => (hk q (Nat.lt_of_lt_of_le h1 hS.1)).trans (hS.2.1 q h1 h2), hS.2.2⟩, zLv_free hl r2 hq, zst_free r3 hq, fun h0 => by have := hnew 0 h0; simpa using this, r1⟩
  · rw [hw]
    refine (hP.kept (fun k x hx => hk x.1 ((hP k x hx).lt))).app (fun i q hiq => ?_)
    obtain ⟨-, -, x, hx, rfl⟩ := hget i q hiq
    exact hn i x hx
  · rw [hw]
    refine va_D.app hD ⟨fun i j x y hi hj hxy => ?_, fun i q hiq => ?_⟩ (fun i j x y hx hy hxy => ?_)
    · obtain ⟨-, a1, -⟩ := hget i x hi
      obtain ⟨-, a2, -⟩ := hget j y hj
      omega
    · obtain ⟨-, a1, -⟩ := hget i q hiq
      rw [a1]
      exact hA _ (by have := hS.1; omega)
    · obtain ⟨-, a1, -⟩ := hget j y hy
      have := (hP i x hx).lt
      omega
theorem z_multi (hx : p.tables.exec = Jvm.exec) (hb : c.code = cc) (hts : ∀ w ∈ zT, w.before args s = true) (hown : s.vm.findClass own = some m.cls) (hK : va_K D cl (ztys dA) s) (hG2 : zG2 E ad A s s.heap) {h h' : zH} (hP : va_P D cl (zw dA ad h) H) (hD : va_D A (zw dA ad h)) (hS : va_S A s.heap H locs) (hA : ∀ q, s.heap.size ≤ q → A q) {nL : Nat} {L : List Value} (hl : zLv ad ls nL L)
    {i a : Nat} {st st' : List Value} (hs : zmulti L st h = some (st', h')) (hd : decode cc pc = .ok (.multianewarray i 2, 4)) (ho : zoka cl E zT own (.multianewarray i 2) a) (hrc : cells + (h'.length - h.length) ≤ R.cells) (hrs : slots + (zslots h' - zslots h) ≤ R.slots)
    (k : ∀ ad' H1, (∀ i, i < h.length ∨ h'.length ≤ i → ad' i = ad i) → h'.length ≤ 9000 → va_P D cl (zw dA ad' h') H1 → va_D A (zw dA ad' h') → va_S A s.heap H1 locs → zLv ad' ls nL L → W p l e R s m args below meth c H1 locs (cells + (h'.length - h.length)) (slots + (zslots h' - zslots h)) Q (F0 m (pc + 4) ls (st'.map (zv ad')))) : W p l e R s m args below meth c H locs cells slots Q (F0 m pc ls (st.map (zv ad))) := by
  unfold zmulti at hs
  split at hs
  case h_2 => cases hs
  case h_1 w n st0 =>
    split at hs
    · rename_i hc
      obtain ⟨c1, c2, c3, c4, c5⟩ := hc
      cases hs
      generalize hg : ([Sum.inr (50, (List.range n.toNatClampNeg).map (fun i => Value.ref (h.length + 1 + i)))] ++ List.replicate n.toNatClampNeg (Sum.inl (0, List.replicate w.toNatClampNeg 0)) : zH) = g at *
      have hgl : g.length = 1 + n.toNatClampNeg := by rw [← hg]; simp; omega
      have e1 : (h ++ g).length - h.length = 1 + n.toNatClampNeg := by rw [List.length_append, hgl]; omega
      have e2 : zslots (h ++ g) - zslots h = n.toNatClampNeg + n.toNatClampNeg * w.toNatClampNeg := by
        rw [zslots_app, ← hg, zslots_app]
        simp [zslots]
      rw [e1] at hrc
      rw [e2] at hrs
      intro T hT Xs
      obtain ⟨V, cA, comp, fA, fC, X', f1, f2, f3, f4, step⟩ := zm_step Xs hx hown (hts _ ho.1) hG2.2.1 (hts _ ho.2) (g := F0 m pc ls (.int w :: .int n :: st0.map (zv ad))) rfl (by rw [hb]; exact hd) rfl c1 c2 (by omega) (z_cb0 c4) hrc hrs
      have ecA : cA = dA 50 := Option.some.inj (fA.symm.trans (show s.vm.findClass _ = some (dA 50) from (hK.2 2 _ rfl).2))
      have eco : comp = dA 0 := Option.some.inj (fC.symm.trans (show s.vm.findClass _ = some (dA 0) from (hK.2 0 _ rfl).2))
      subst ecA
      subst eco
      rw [hT] at f1 f2 f3 f4
      obtain ⟨ad', g1, g2, g3, g4, g5, g6, g7, g8⟩ := z_many (g := g) (H1 := V.heap) (st := st0) (by rw [hgl]; exact c5) hl hP hD hS hA (by rw [f1, hgl]; omega) f3 (fun j x hj => by
        rw [← hg] at hj
        cases j with
        | zero =>
          simp at hj
          subst hj
          show V.heap[H.size + 0]? = some (vp_cell _ _)
          rw [Nat.add_zero, f2, zmo, vp_cell_q]
          simp only [List.length_map, List.length_range]
          refine congrArg some (z_arrc fun j hj => ?_)
          rw [if_pos hj, List.getD_eq_getElem?_getD, List.getElem?_map, List.getElem?_range hj]
          simp only [Option.map_some, Option.getD_some, zo, va_rf]
          rw [if_pos (by rw [hgl]; omega), show h.length + 1 + j - h.length = 1 + j by omega, Nat.add_assoc]
        | succ j =>
          simp only [List.cons_append, List.nil_append, List.getElem?_cons_succ] at hj
          rw [List.getElem?_replicate] at hj
          split at hj
          · rename_i hjn
            cases hj
            show V.heap[H.size + (j + 1)]? = some (vp_cell _ _)
            rw [show H.size + (j + 1) = H.size + 1 + j by omega, f4 j hjn, vp_cell_i]
            unfold zmi
            simp only [List.length_replicate]
            refine congrArg some (z_arrc fun j _ => ?_)
            rw [List.getD_eq_getElem?_getD, List.getElem?_replicate]
            split <;> rfl
          · cases hj)
      have hkk := k ad' V.heap (by simpa using g1) (by simpa using g8) g2 g3 g4 g5
      rw [e1, e2] at hkk
      obtain ⟨t, a1, b1⟩ := hkk V rfl (by simpa [Nat.add_assoc] using X')
      refine ⟨t, step t ?_, b1⟩
      have e9 : T.heap.size = H.size := by rw [hT]
      rw [e9]
      simpa [zv, g7 (by rw [hgl]; omega), g6] using a1
    · cases hs
end ZX
