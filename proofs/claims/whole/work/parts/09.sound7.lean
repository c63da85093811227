/-! What is given, seen from other states. -/
theorem zG_ad {E : zS} {F : zNm} {zN : List Jvm.Cond} {ad ad' : Nat → Nat} {A : Nat → Prop} {U : State} {H : Heap} (hq : ∀ i, 10000 ≤ i → ad' i = ad i) (h : zG E F zN ad A U H) : zG E F zN ad' A U H := by
  have hq' : ∀ i, i < 0 ∨ 10000 ≤ i → ad' i = ad i := fun i hi => hq i (by omega)
  have hE : ∀ x, zisE E x = true → 10000 ≤ x := fun x hx => by
    unfold zisE at hx
    simp only [Bool.and_eq_true, decide_eq_true_eq] at hx
    exact hx.1
  have hSs : ∀ x, zisS E x = true → 10000 ≤ x := fun x hx => by
    unfold zisS at hx
    simp only [Bool.and_eq_true, decide_eq_true_eq] at hx
    exact hx.1
  obtain ⟨h1, h2, h3, h4, h5, h6, h7, h8⟩ := h
  refine ⟨fun a v hv => ?_, fun k a b v hv => ?_, fun k t xs hk => ?_, fun x y hx hy hxy => ?_, fun x hx => ?_, fun x hx => ?_, fun own i x hx => ?_, h8⟩
  · obtain ⟨f1, C, n, d, f2, f3⟩ := h1 a v hv
    exact ⟨f1, C, n, d, f2, by rw [zv_free f1 hq']; exact f3⟩
  · obtain ⟨f0, f1, C, n, d, f2, f3⟩ := h2 k a b v hv
    exact ⟨f0, f1, C, n, d, f2, by rw [zv_free f1 hq', hq k f0]; exact f3⟩
  · obtain ⟨f0, f1, f2⟩ := h3 k t xs hk
    exact ⟨f0, f1, by rw [hq k f0]; exact f2⟩
  · rw [hq x (hE x hx), hq y (hE y hy)] at hxy
    exact h4 x y hx hy hxy
  · rw [hq x (hE x hx)]; exact h5 x hx
  · rw [hq x (hSs x hx)]; exact h6 x hx
  · obtain ⟨f0, tx, f1⟩ := h7 own i x hx
    exact ⟨f0, tx, by rw [hq x f0]; exact f1⟩
theorem zG2_ad {E : zS} {ad ad' : Nat → Nat} {A : Nat → Prop} {U : State} {H : Heap} (hq : ∀ i, 10000 ≤ i → ad' i = ad i) (h : zG2 E ad A U H) : zG2 E ad' A U H := by
  obtain ⟨h1, h2, h3, h5⟩ := h
  refine ⟨h1, h2, h3, fun vs hvs => ?_⟩
  obtain ⟨f1, cell, q1, q2, q3, q4, q5, q6⟩ := h5 vs hvs
  have e0 : ad' 10300 = ad 10300 := hq _ (by omega)
  refine ⟨f1, cell, by rw [e0]; exact q1, q2, q3, q4, ?_, by rw [e0]; exact q6⟩
  rw [q5]
  congr 1
  refine List.map_congr_left fun v hv => ?_
  obtain ⟨k, hk, rfl⟩ := f1 v hv
  show Value.ref (ad k) = Value.ref (ad' k)
  rw [hq k hk]
/-- the same tables -/
theorem zG_same {E : zS} {F : zNm} {cl : List vw_C} {zT zN : List Jvm.Cond} (hC : zokc cl zT zN) {ad : Nat → Nat} {A : Nat → Prop} {U V : State} {H : Heap} (hv : V.vm = U.vm) (h : zG E F zN ad A U H) : zG E F zN ad A V H := by
  have ha : U.vm.Alike V.vm := by rw [hv]; exact Vm.Alike.refl _
  obtain ⟨h1, h2, h3, h4, h5, h6, h7, h8⟩ := h
  refine ⟨fun a v hv => ?_, fun k a b v hv => ?_, fun k t xs hk => ?_, h4, fun x hx => va_O.moved ha (h5 x hx), fun x hx => va_O.moved ha (h6 x hx), fun own i x hx => ?_, fun w hw => va_Nw.same (hC.2.1 w hw).1 hv.symm (h8 w hw)⟩
  · obtain ⟨f1, C, n, d, f2, f3⟩ := h1 a v hv
    exact ⟨f1, C, n, d, f2, va_Z.moved ha f3⟩
  · obtain ⟨f0, f1, C, n, d, f2, f3⟩ := h2 k a b v hv
    exact ⟨f0, f1, C, n, d, f2, va_OF.moved ha f3⟩
  · obtain ⟨f0, f1, f2⟩ := h3 k t xs hk
    exact ⟨f0, f1, va_T.moved ha f2⟩
  · obtain ⟨f0, tx, f1⟩ := h7 own i x hx
    exact ⟨f0, tx, vk_R.same hv f1⟩
theorem zAO_moved {U V : State} (ha : U.vm.Alike V.vm) (h : (Jvm.Cond.arrayOver (.array .int)).before #[] U = true) : (Jvm.Cond.arrayOver (.array .int)).before #[] V = true := zm_overB ha h
theorem zG2_same {E : zS} {ad : Nat → Nat} {A : Nat → Prop} {U V : State} {H : Heap} (hv : V.vm = U.vm) (h : zG2 E ad A U H) : zG2 E ad A V H := by
  have ha : U.vm.Alike V.vm := by rw [hv]; exact Vm.Alike.refl _
  obtain ⟨h1, h2, h3, h5⟩ := h
  exact ⟨fun C hC => va_AO.moved ha (h1 C hC), zAO_moved ha h2, va_Nw.same rfl hv.symm h3, fun vs hvs => by
    obtain ⟨f1, cell, q1, q2, q3, q4, q5, q6⟩ := h5 vs hvs
    exact ⟨f1, cell, q1, q2, q3, by rw [hv]; exact q4, q5, q6⟩⟩
/-- a state with warmer tables, another heap that keeps what is given, fewer cells of one's own -/
theorem zG_warm {E : zS} {F : zNm} {cl : List vw_C} {zT zN : List Jvm.Cond} (hC : zokc cl zT zN) {ad : Nat → Nat} {A B : Nat → Prop} {s U : State} {H H1 : Heap} (hW : s.WarmedH U.vm) (hk : ∀ a : Nat, a < H.size → ¬ A a → H1[a]? = H[a]?) (hAB : ∀ q, B q → A q) (h : zG E F zN ad A s H) : zG E F zN ad B U H1 := by
  have ha : s.vm.Alike U.vm := hW.alike
  obtain ⟨h1, h2, h3, h4, h5, h6, h7, h8⟩ := h
  refine ⟨fun a v hv => ?_, fun k a b v hv => ?_, fun k t xs hk' => ?_, h4, fun x hx => ((va_O.moved ha (h5 x hx)).kept hk).narrow hAB, fun x hx => ((va_O.moved ha (h6 x hx)).kept hk).narrow hAB, fun own i x hx => ?_, fun w hw => (hC.2.1 w hw).2 s U hW (h8 w hw)⟩
  · obtain ⟨f1, C, n, d, f2, f3⟩ := h1 a v hv
    exact ⟨f1, C, n, d, f2, ((va_Z.moved ha f3).kept hk).narrow hAB⟩
  · obtain ⟨f0, f1, C, n, d, f2, f3⟩ := h2 k a b v hv
    exact ⟨f0, f1, C, n, d, f2, ((va_OF.moved ha f3).kept hk).narrow hAB⟩
  · obtain ⟨f0, f1, f2⟩ := h3 k t xs hk'
    exact ⟨f0, f1, ((va_T.moved ha f2).kept hk).narrow hAB⟩
  · obtain ⟨f0, tx, f1⟩ := h7 own i x hx
    exact ⟨f0, tx, vk_R.warm hW f1⟩
theorem zG2_warm {E : zS} {ad : Nat → Nat} {A B : Nat → Prop} {s U : State} {H H1 : Heap} (hW : s.WarmedH U.vm) (hk : ∀ a : Nat, a < H.size → ¬ A a → H1[a]? = H[a]?) (hAB : ∀ q, B q → A q) (h : zG2 E ad A s H) : zG2 E ad B U H1 := by
  have ha : s.vm.Alike U.vm := hW.alike
  obtain ⟨h1, h2, h3, h5⟩ := h
  exact ⟨fun C hC => va_AO.moved ha (h1 C hC), zAO_moved ha h2, va_Nw.warmC hW h3, fun vs hvs => by
    obtain ⟨f1, cell, q1, q2, q3, q4, q5, q6⟩ := h5 vs hvs
    exact ⟨f1, cell, by rw [hk _ (Array.getElem?_eq_some_iff.mp q1).1 q6]; exact q1, q2, q3, by rw [ha.findClass]; exact q4, q5, fun hb => q6 (hAB _ hb)⟩⟩
