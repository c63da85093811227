/-! new int[n][k] over the machine: the state behind it, a row after the other; nothing of the library's laws of JDK members is used -/
section ZM
/-- the outer array, i of its places told; a row -/
def zmo (cA : ClassId) (N a i : Nat) : Cell := arrV cA N (fun j => if j < i then Value.ref (a + 1 + j) else .null)
def zmi (cB : ClassId) (K : Nat) : Cell := arrV cB K (fun _ => .int 0)
theorem zmo_up (cA : ClassId) (N a i : Nat) : (zmo cA N a i).setSlot i (.ref (a + 1 + i)) = zmo cA N a (i + 1) := by
  unfold zmo
  rw [arrV_store]
  refine congrArg (arrV cA N) (funext fun j => ?_)
  show (if j = i then Value.ref (a + 1 + i) else if j < i then Value.ref (a + 1 + j) else .null) = if j < i + 1 then Value.ref (a + 1 + j) else .null
  by_cases hj : j = i
  · subst hj
    rw [if_pos rfl, if_pos (Nat.lt_succ_self _)]
  · rw [if_neg hj]
    by_cases hl : j < i
    · rw [if_pos hl, if_pos (Nat.lt_succ_of_lt hl)]
    · rw [if_neg hl, if_neg (by omega)]
variable {p : Program} {l : Launch} {e : Env} {R : Room} {s : State} {m : MethodId} {args : Array Value} {below : List Frame} {meth : Method} {c : Code} {T V : State} {locs : List Loc} {cells slots : Nat}
/-- V: where i rows are made -/
def zmS (p : Program) (l : Launch) (e : Env) (R : Room) (s : State) (m : MethodId) (args : Array Value) (below : List Frame) (meth : Method) (c : Code) (T : State) (locs : List Loc) (cells slots : Nat) (cA cB : ClassId) (N K i : Nat) (V : State) : Prop :=
  Stand p l e R s m args below meth c V locs (cells + 1 + i) (slots + N + i * K) ∧ V.vm = T.vm ∧ V.heap.size = T.heap.size + 1 + i ∧ V.heap[T.heap.size]? = some (zmo cA N T.heap.size i) ∧
    (∀ x, x < T.heap.size → V.heap[x]? = T.heap[x]?) ∧ ∀ j, j < i → V.heap[T.heap.size + 1 + j]? = some (zmi cB K)
theorem zmS_zero (X : Stand p l e R s m args below meth c T locs cells slots) (cA cB : ClassId) (N K : Nat) : zmS p l e R s m args below meth c T locs cells slots cA cB N K 0 (T.pushCell (zmo cA N T.heap.size 0)) := by
  have h := X.pushed (zmo cA N T.heap.size 0)
  rw [show (zmo cA N T.heap.size 0).slots.size = N from arrV_size _ _ _] at h
  exact ⟨by simpa using h, rfl, by simp, by simp, fun x hx => State.heap_pushCell_of_lt _ _ hx, fun j hj => absurd hj (Nat.not_lt_zero _)⟩
theorem zmS_succ {cA cB : ClassId} {N K i : Nat} (hg : s.heap.size ≤ T.heap.size) (h : zmS p l e R s m args below meth c T locs cells slots cA cB N K i V) :
    zmS p l e R s m args below meth c T locs cells slots cA cB N K (i + 1) ((V.pushCell (zmi cB K)).setCell T.heap.size (zmo cA N T.heap.size (i + 1))) := by
  obtain ⟨X, hv, hn, ho, hk, hr⟩ := h
  have hlt : T.heap.size < V.heap.size := by omega
  have hc : (V.pushCell (zmi cB K)).heap[T.heap.size]? = some (zmo cA N T.heap.size i) := by rw [State.heap_pushCell_of_lt (h := hlt)]; exact ho
  have X1 := (X.pushed (zmi cB K)).stored hc i (.ref (T.heap.size + 1 + i))
  rw [zmo_up, show (zmi cB K).slots.size = K from arrV_size _ _ _] at X1
  have X2 := X1.dropFresh (J := [⟨T.heap.size, i⟩]) (fun x hx => by rw [List.mem_singleton.mp hx]; exact hg)
  refine ⟨?_, hv, ?_, State.heap_setCell_self hc, fun x hx => ?_, fun j hj => ?_⟩
  · rw [show slots + N + (i + 1) * K = slots + N + i * K + K by rw [Nat.succ_mul]; omega]
    exact X2
  · simp [State.setCell, hn]
    omega
  · rw [State.heap_setCell_other (show T.heap.size ≠ x by omega), State.heap_pushCell_of_lt (h := show x < V.heap.size by omega)]
    exact hk x hx
  · rw [State.heap_setCell_other (show T.heap.size ≠ T.heap.size + 1 + j by omega)]
    by_cases hj' : j < i
    · rw [State.heap_pushCell_of_lt (h := show T.heap.size + 1 + j < V.heap.size by omega)]
      exact hr j hj'
    · rw [show T.heap.size + 1 + j = V.heap.size by omega]
      exact State.heap_pushCell_size _ _
/-- the state itself -/
def zmV (T : State) (cA cB : ClassId) (N K : Nat) : Nat → State
  | 0 => T.pushCell (zmo cA N T.heap.size 0)
  | i + 1 => ((zmV T cA cB N K i).pushCell (zmi cB K)).setCell T.heap.size (zmo cA N T.heap.size (i + 1))
theorem zmV_ok (X : Stand p l e R s m args below meth c T locs cells slots) (cA cB : ClassId) (N K : Nat) (i : Nat) : zmS p l e R s m args below meth c T locs cells slots cA cB N K i (zmV T cA cB N K i) := by
  induction i with
  | zero => exact zmS_zero X cA cB N K
  | succ i ih => exact zmS_succ X.heapGrown ih
/-- the machine's 'make' of one row -/
theorem zm_row {E : CtlPost} {d : Bool} {acts : List Action} {S : State} {cB cI : ClassId} {kB : Class} {k : Int32} {Q : Addr → Pre} (hl : l.admits e) (hkB : S.vm.classes[cB]? = some kB) (hB : kB.kind = .array cI .int) (c2 : ¬ k < 0) (b2 : k.toNatClampNeg * 4 ≤ 536870912)
    (r1 : S.heap.size < e.platform.maxCells) (r2 : S.slotsUsed + k.toNatClampNeg ≤ e.platform.maxSlots) (hq : ∀ acts', Q S.heap.size d acts' (S.pushCell (zmi cB k.toNatClampNeg))) : wp (Jvm.Op.multianewarray.make cB [k]) Q E e d acts S := by
  rw [Jvm.Op.multianewarray.make]
  simp only [wp_bind', Jvm.W.ite, c2, if_false, wp_pure', Jvm.W.theClass, hkB, hB, Option.some.injEq, exists_eq_left']
  refine Jvm.W.newArray_of hkB hB (by rw [Launch.admits_arrayLengthLimit hl]; omega) (by rw [Launch.admits_maxHeapBytes hl]; show ¬ k.toNatClampNeg * 4 > 536870912; omega) r1 r2 rfl (fun acts' => ?_)
  have := hq acts'
  unfold zmi at this
  rw [← arrV_new] at this
  exact this
/-- the machine's 'make' of both dimensions, beside a frame on top -/
theorem zm_make {E : CtlPost} {d : Bool} {acts : List Action} {f : JFrame} {cA cB cI : ClassId} {kA kB : Class} {n k : Int32} {Q : Addr → Pre} (X : Stand p l e R s m args below meth c T locs cells slots)
    (hkA : T.vm.classes[cA]? = some kA) (hA : kA.kind = .array cB (.array .int)) (hkB : T.vm.classes[cB]? = some kB) (hB : kB.kind = .array cI .int) (c1 : ¬ n < 0) (c2 : ¬ k < 0) (b1 : n.toNatClampNeg * 4 ≤ 536870912) (b2 : k.toNatClampNeg * 4 ≤ 536870912)
    (hrc : cells + (1 + n.toNatClampNeg) ≤ R.cells) (hrs : slots + (n.toNatClampNeg + n.toNatClampNeg * k.toNatClampNeg) ≤ R.slots)
    (hq : ∀ d' acts', Q T.heap.size d' acts' ((zmV T cA cB n.toNatClampNeg k.toNatClampNeg n.toNatClampNeg).setTop f)) :
    wp (Jvm.Op.multianewarray.make cA [n, k]) Q E e d acts (T.setTop f) := by
  generalize hN : n.toNatClampNeg = N at *
  generalize hK : k.toNatClampNeg = K at *
  have hl := X.admits
  have hfind : ([k].find? (· < 0)) = none := by simp [c2]
  have hm0 : 0 ≤ N * K := Nat.zero_le _
  obtain ⟨r1, r2⟩ := X.roomAbove (a := 1) (b := N) (by omega) (by omega)
  rw [Jvm.Op.multianewarray.make]
  simp only [wp_bind', Jvm.W.ite, c1, if_false, wp_pure', Jvm.W.theClass, State.vm_setTop, hkA, hA, Option.some.injEq, exists_eq_left', hN]
  refine Jvm.W.newArray_of (s := T.setTop f) (k := kA) (type := .array .int) hkA hA (by rw [Launch.admits_arrayLengthLimit hl]; omega) (by rw [Launch.admits_maxHeapBytes hl]; show ¬ N * 4 > 536870912; omega) (by show T.heap.size < _; omega) (by show T.slotsUsed + N ≤ _; omega) rfl (fun acts' => ?_)
  simp only [hfind]
  rw [ite_self, wp_bind', Std.Legacy.Range.forIn_eq_forIn_range']
  rw [show ([:N] : Std.Legacy.Range).size = N by simp [Std.Legacy.Range.size]]
  refine wp_forIn_inv (fun rest S => ∃ i, i + rest.length = N ∧ rest = List.range' i (N - i) ∧ S = (zmV T cA cB N K i).setTop f) _ _ ⟨0, by simp, by simp, ?_⟩ ?_ ?_
  · rw [State.pushCell_setTop, arrV_new]
    simp [zmV, zmo]
  · rintro x rest S d' acts' Q' ⟨i, hi, hr, rfl⟩ hn
    rw [List.length_cons] at hi
    rw [show N - i = (N - (i + 1)) + 1 by omega, List.range'_succ] at hr
    obtain ⟨rfl, hr'⟩ := List.cons.inj hr
    obtain ⟨Y, hv, hsz, ho, -, -⟩ := zmV_ok X cA cB N K x
    generalize hV : zmV T cA cB N K x = V at *
    have hmul : (x + 1) * K ≤ N * K := Nat.mul_le_mul_right _ (by omega)
    rw [Nat.succ_mul] at hmul
    obtain ⟨w1, w2⟩ := Y.roomAbove (a := 1) (b := K) (by omega) (by omega)
    simp only [wp_bind']
    refine zm_row (S := V.setTop f) (kB := kB) (cI := cI) hl (by show V.vm.classes[cB]? = _; rw [hv]; exact hkB) hB c2 (by rw [hK]; exact b2) (by show V.heap.size < _; omega) (by rw [hK]; exact w2) (fun acts2 => ?_)
    rw [hK]
    simp only [wp_bind', Jvm.W.writeLoc, wp_pure']
    have hlt : T.heap.size < V.heap.size := by omega
    refine ⟨zmo cA N T.heap.size x, ?_, ?_, ?_, ?_, hn _ _ _ ⟨x + 1, by omega, hr', ?_⟩⟩
    · show (V.pushCell (zmi cB K)).heap[T.heap.size]? = _
      rw [State.heap_pushCell_of_lt (h := hlt)]
      exact ho
    · simp [zmo, arrV]
    · rw [show (zmo cA N T.heap.size x).slots.size = N from arrV_size _ _ _]
      omega
    · simp [zmo, arrV, State.fitsSlot, State.slotType?, hv, hkA, hA, fits]
    · show ((V.setTop f).pushCell (zmi cB K)).setCell T.heap.size ((zmo cA N T.heap.size x).setSlot x (.ref V.heap.size)) = _
      rw [hsz, zmo_up, zmV, hV]
      rfl
  · rintro S d' acts' ⟨i, hi, -, rfl⟩
    have : i = N := by simpa using hi
    subst this
    simp only [wp_pure']
    exact hq _ _
/-- the atom 'arrayOver' of int[] -/
theorem zm_over {as : Array Value} {U : State} (h : (Jvm.Cond.arrayOver (.array .int)).before as U = true) :
    ∃ cB cA kA, U.vm.findClass "[I" = some cB ∧ (U.vm.classes.findIdx? fun x => match x.kind with | .array q _ => q == cB | _ => false) = some cA ∧ U.vm.classes[cA]? = some kA ∧ kA.kind = .array cB (.array .int) ∧ U.vm.findClass "[[I" = some cA := by
  simp only [Jvm.Cond.before, Jvm.Cond.holds, Jvm.Cond.value, beq_iff_eq] at h
  obtain ⟨cB, hB, h⟩ := Option.bind_eq_some_iff.mp h
  obtain ⟨cA, hi, h⟩ := Option.bind_eq_some_iff.mp h
  obtain ⟨kA, hk, h⟩ := Option.map_eq_some_iff.mp h
  have hq := (Array.findIdx?_eq_some_iff_getElem.mp hi).2.1
  rw [(Array.getElem?_eq_some_iff.mp hk).2] at hq
  refine ⟨cB, cA, kA, hB, hi, hk, ?_, ?_⟩
  all_goals
    cases hkd : kA.kind with
    | array q ty =>
      rw [hkd] at h hq
      simp at h hq
      first | exact h.2 | rw [hq, h.1]
    | _ => rw [hkd] at hq; simp at hq
theorem zm_overB {as bs : Array Value} {U V : State} (ha : U.vm.Alike V.vm) (h : (Jvm.Cond.arrayOver (.array .int)).before as U = true) : (Jvm.Cond.arrayOver (.array .int)).before bs V = true := by
  obtain ⟨cB, cA, kA, h1, h2, h3, h4, h5⟩ := zm_over h
  obtain ⟨kV, h3', hek⟩ := ha.2.2 _ _ h3
  have h4' : kV.kind = .array cB (.array .int) := by rw [hek]; exact h4
  rw [← ha.findClass] at h1 h5
  rw [← ha.findIdx?_eqK _ (fun _ => rfl)] at h2
  simp only [Jvm.Cond.before, Jvm.Cond.holds, Jvm.Cond.value, beq_iff_eq]
  refine Option.bind_eq_some_iff.mpr ⟨cB, h1, Option.bind_eq_some_iff.mpr ⟨cA, h2, Option.map_eq_some_iff.mpr ⟨kV, h3', ?_⟩⟩⟩
  rw [h4']
  simp
  exact h5
/-- the instruction -/
theorem zm_step (X : Stand p l e R s m args below meth c T locs cells slots) (hx : p.tables.exec = Jvm.exec) {own : String} {index : Nat} (hown : s.vm.findClass own = some m.cls) {as : Array Value}
    (hcl : (Jvm.Cond.classLink own index "[[I").before args s = true) (hov : (Jvm.Cond.arrayOver (.array .int)).before as s = true) (har : (Jvm.Cond.arrayClass .int).before args s = true)
    {g : JFrame} (hg : g.method = m) (hd : decode c.code g.pc = .ok (.multianewarray index 2, 4)) {n k : Int32} {rest : List Value} (hst : g.stack = .int k :: .int n :: rest)
    (c1 : ¬ n < 0) (c2 : ¬ k < 0) (b1 : n.toNatClampNeg * 4 ≤ 536870912) (b2 : k.toNatClampNeg * 4 ≤ 536870912)
    (hrc : cells + (1 + n.toNatClampNeg) ≤ R.cells) (hrs : slots + (n.toNatClampNeg + n.toNatClampNeg * k.toNatClampNeg) ≤ R.slots) :
    ∃ V cA cB, s.vm.findClass "[[I" = some cA ∧ s.vm.findClass "[I" = some cB ∧ Stand p l e R s m args below meth c V locs (cells + 1 + n.toNatClampNeg) (slots + n.toNatClampNeg + n.toNatClampNeg * k.toNatClampNeg) ∧ V.heap.size = T.heap.size + 1 + n.toNatClampNeg ∧ V.heap[T.heap.size]? = some (zmo cA n.toNatClampNeg T.heap.size n.toNatClampNeg) ∧
      (∀ x, x < T.heap.size → V.heap[x]? = T.heap[x]?) ∧ (∀ j, j < n.toNatClampNeg → V.heap[T.heap.size + 1 + j]? = some (zmi cB k.toNatClampNeg)) ∧ ∀ target, Steps p.tables e below (V.setTop { g with pc := g.pc + 4, stack := .ref T.heap.size :: rest }) target → Steps p.tables e below (T.setTop g) target := by
  subst hg
  obtain ⟨cB, cA, kA, h1, -, h3, h4, h5⟩ := zm_over hov
  obtain ⟨cB', kB, cI, h6, h7, h8⟩ := Cond.arrayClass_spec har
  cases Option.some.inj (h6.symm.trans h1)
  obtain ⟨c0, h9, hcl'⟩ := Cond.classLink_spec hown hcl e.platform (by rw [X.admits.platform])
  cases Option.some.inj (h9.symm.trans h5)
  obtain ⟨hg₁, hw₁, hr₁⟩ := State.classEntry (e := e) X.warmed hcl'
  generalize T.vm.noted g.method.cls index (.cls cA) = vm₁ at hg₁ hw₁ hr₁
  obtain ⟨kA₁, hA₁, eA⟩ := hw₁.alike.2.2 _ _ h3
  obtain ⟨kB₁, hB₁, eB⟩ := hw₁.alike.2.2 _ _ h7
  have X₁ := X.noted hw₁
  obtain ⟨Y, -, y1, y2, y3, y4⟩ := zmV_ok X₁ cA cB n.toNatClampNeg k.toNatClampNeg n.toNatClampNeg
  refine ⟨_, cA, cB, h5, h1, Y, y1, y2, y3, y4, fun target hrest => ?_⟩
  jvm_step X.here [hx, hd]
  simp only [Jvm.Op.multianewarray.sem, wp_bind', Jvm.W.resolveClassAt_links (State.method?_setTop g X.here.top) hg₁]
  refine (popN_top (s := T.setVm vm₁) (f := g) X₁.here.top (args := [.int n, .int k]) (rest := rest) hst).mpr ?_
  simp only [List.mapM_cons, List.mapM_nil, wp_bind', wp_pure']
  refine zm_make (f := { g with stack := rest }) X₁ hA₁ (by rw [eA]; exact h4) hB₁ (by rw [eB]; exact h8) c1 c2 b1 b2 hrc hrs (fun d' acts' => ?_)
  simp only [wp_bind', Jvm.W.mark, Jvm.W.pushRef, State.topJava?_setTop' _ Y.here.top, Option.some.injEq, exists_eq_left', State.setTop_setTop]
  intro acts
  simp [jvm, Y.here.top]
  exact hrest
end ZM
