/-! The interpreter and the machine: every run of the one is a run of the other. -/
def zml (zT zN : List Jvm.Cond) (own : String) (i : Nat) (y : MethodName) : Prop := Jvm.Cond.methodLink own i y ∈ zT ∨ ∃ host, Jvm.Cond.methodLinkNest own i y host ∈ zN
/-- what the tables must say of the methods -/
def zokM (M : zM) (zT : List Jvm.Cond) : Prop :=
  (∀ (a : Nat) (y : MethodName) (bt : ByteArray) (n : Nat) (r : Option FieldType), M a = some (y, bt, n, r) → 1 ≤ a → Jvm.Cond.code y bt n r ∈ zT ∧ plainFor y = true ∧ Jvm.Cond.initialized y.cls ∈ zT ∧ (y.cls ≠ "java/lang/invoke/MethodHandle" ∧ y.cls ≠ "java/lang/invoke/VarHandle") ∧ n ≤ 80) ∧
  (∀ w ∈ zT, (w.onTables && w.keeps) = true ∨ ∃ ty, w = .arrayClass ty)
/-- what the tables must say of a call -/
def zokC (cl : List vw_C) (M : zM) (zT zN : List Jvm.Cond) (own : String) (ins : Instr) (a b : Nat) (c : Int) : Prop :=
  ∃ (y : MethodName) (bt : ByteArray) (n : Nat) (r : Option FieldType), 1 ≤ a ∧ M a = some (y, bt, n, r) ∧ (parseMethodDescriptor y.desc).map (fun d => d.parameters.length) = some b ∧ match ins with
    | .invokestatic i => zml zT zN own i y ∧ Jvm.Cond.static y ∈ zT
    | .invokespecial i => zml zT zN own i y ∧ y.name = "<init>" ∧ Jvm.Cond.instanceMethod y ∈ zT ∧ r = none
    | .invokevirtual i => ∃ C, zml zT zN own i y ∧ Jvm.Cond.instanceMethod y ∈ zT ∧ Jvm.Cond.selects C y y ∈ zT ∧ ((c = 41 ∧ C = "java/lang/String") ∨ (¬ c = 41 ∧ ∃ T N, cl[c.toNat]? = some (C, T, N)))
    | _ => False
/-- what the tables must say of an instruction -/
def zokP (cl : List vw_C) (P : zP) (M : zM) (E : zS) (F : zNm) (zT zN : List Jvm.Cond) : Prop :=
  ∀ (mi pc : Nat) (ins : Instr) (a b : Nat) (c : Int), P mi pc = some (ins, a, b, c) → ∀ (y : MethodName) (bt : ByteArray) (n : Nat) (r : Option FieldType), M mi = some (y, bt, n, r) →
    (∃ len, decode bt pc = .ok (ins, len) ∧ (zlen ins = 0 ∨ zlen ins = len)) ∧ (zkd ins a = 4 → zokH cl E F zT zN y.cls y.name ins a b c) ∧ (zkd ins a = 6 → zokC cl M zT zN y.cls ins a b c)
/-- the statement, of runs of at most n instructions -/
def zOK (P : zP) (M : zM) (E : zS) (F : zNm) (zN zT : List Jvm.Cond) (D : va_G) (cl : List vw_C) (dA : Nat → ClassId) (l : Launch) (n : Nat) : Prop :=
  ∀ (d mi pc : Nat) (L st : List Value) (h h' : zH) (r : Option Value), zexec P M E n d mi pc L st h = some (r, h') →
    ∀ (p : Program) (e : Env) (R : Room) (s : State) (m : MethodId) (args : Array Value) (below : List Frame) (meth : Method) (c : Code) (y : MethodName) (bt : ByteArray) (nL : Nat) (ret : Option FieldType) (A : Nat → Prop) (ad : Nat → Nat) (H : Heap) (locs : List Loc) (ls : Array Slot) (cells slots : Nat) (Q : State → Prop),
      M mi = some (y, bt, nL, ret) → zB p R s m args c bt nL y.cls D cl dA zT zN A → meth.name = y.name → d + 1 ≤ R.frames → 100 * (d + 2) ≤ R.locals → zG E F zN ad A s s.heap → zG2 E ad A s s.heap → zI D cl dA A s nL ad h H locs ls L →
      cells + (h'.length - h.length) ≤ R.cells → slots + (zslots h' - zslots h) ≤ R.slots →
      (∀ (ad' : Nat → Nat) (H1 : Heap) (locs1 : List Loc) (pcR : Nat) (lsR : Array Slot) (ins : Instr), (∀ i, i < h.length ∨ h'.length ≤ i → ad' i = ad i) → h'.length ≤ 9000 → va_P D cl (zw dA ad' h') H1 → va_D A (zw dA ad' h') → va_S A s.heap H1 locs1 → decode bt pcR = .ok (ins, 1) → zrt ret ins r.toList h' = some (r, h') →
        W p l e R s m args below meth c H1 locs1 (cells + (h'.length - h.length)) (slots + (zslots h' - zslots h)) Q (F0 m pcR lsR (r.toList.map (zv ad')))) →
      W p l e R s m args below meth c H locs cells slots Q (F0 m pc ls (st.map (zv ad)))
/-- a contract out of a walk, of any method that the machine runs by its bytecode -/
theorem z_ofW {l : Launch} {y : MethodName} {ws ws' : List Jvm.Cond} {rm : Room} {Pc : Array Value → State → Prop} {Qc : Array Value → State → Outcome → State → Prop} {mc ms : Nat} {free : Addr → Prop} {cc : ByteArray} {maxL : Nat} {ret : Option FieldType}
    (hy : plainFor y = true) (hw : ws = Jvm.Cond.code y cc maxL ret :: ws')
    (body : ∀ p e s m args below meth c s₁, BodyLoose p l y (headSpec ws rm) cc maxL ret e s m args below meth c s₁ → c.maxLocals = maxL → Pc args s →
      W p l e (headSpec ws rm).room s m args below meth c s.heap [] 0 0 (MQ below Qc args s mc ms free) (entryFrame m args maxL)) : Met l y ws rm Pc Qc mc ms free := by
  refine MetFree.of_bodySF (code := cc) (maxLocals := maxL) (ret := ret) hy ?_ ?_
  · intro args s m h hn
    obtain ⟨meth, c, h1, h2, h3, h4, h5, h6, -, -⟩ := Cond.code_spec hn (atoms_spec (ws := ws) h _ (by rw [hw]; exact List.mem_cons_self))
    exact ⟨meth, c, h1, h2, h3, h4, h5, h6⟩
  · intro p e s m args below meth c s₁ B hml hP _
    have hh0 : s₁.heap = s.heap := by rw [B.state]; rfl
    obtain ⟨t, a1, o, b1, b2, b3⟩ := body p e s m args below meth c s₁ B hml hP s₁ hh0 (Stand.of_body B)
    exact ⟨t, o, a1, b1, b2, ⟨b3.1, b3.2⟩⟩
theorem zv_toList {ad : Nat → Nat} {r : Option Value} : r.toList.map (zv ad) = (r.map (zv ad)).toList := by cases r <;> rfl
set_option maxHeartbeats 1000000 in
/-- a run is a contract -/
theorem z_met {P : zP} {M : zM} {E : zS} {F : zNm} {zN zT : List Jvm.Cond} {D : va_G} {cl : List vw_C} {dA : Nat → ClassId} {l : Launch} (hM : zokM M zT) (hC : zokc cl zT zN) {n : Nat} (hn : zOK P M E F zN zT D cl dA l n)
    {d mi : Nat} {as : List Value} {h h' : zH} {r : Option Value} {y : MethodName} {bt : ByteArray} {nL : Nat} {ret : Option FieldType} (h1 : 1 ≤ mi) (hmi : M mi = some (y, bt, nL, ret)) (hal : (zargs as).length ≤ nL) (hs : zexec P M E n d mi 0 (zent nL as) [] h = some (r, h')) (ad : Nat → Nat) (sz : Nat) :
    Met l y (Jvm.Cond.code y bt nL ret :: zT) (zrm d (h'.length - h.length) (zslots h' - zslots h)) (zPc E F zN D cl dA ad as h sz) (zQc D cl dA ad h sz r h') (h'.length - h.length) (zslots h' - zslots h) (va_A (zw dA ad h) sz) := by
  refine z_ofW (cc := bt) (maxL := nL) (ret := ret) (hM.1 _ _ _ _ _ hmi h1).2.1 rfl ?_
  intro p e s m args below meth c s₁ B hml hv
  obtain ⟨rfl, hsz, hlen, hP, hK, hD0, hG, hG2⟩ := hv
  subst hsz
  have hts := atoms_spec (ws := Jvm.Cond.code y bt nL ret :: zT) B.pre
  have hown : s.vm.findClass y.cls = some m.cls := findClass_of_methodNamed B.named
  have hnm : meth.name = y.name := (name_of_methodNamed B.named B.method).1
  have hD := hD0.self (sz := s.heap.size)
  have hA : ∀ q : Nat, s.heap.size ≤ q → va_A (zw dA ad h) s.heap.size q := fun q h => Or.inr h
  rw [lg_entry_eq]
  have hlocks := B.notSynchronized
  refine hn d mi 0 (zent nL as) [] h h' r hs p e _ s m _ below meth c y bt nL ret (va_A (zw dA ad h) s.heap.size) ad s.heap [] _ 0 0 _ hmi ⟨B.exec, B.bytes, hml, hown, fun w hw => hts w (List.mem_cons_of_mem _ hw), hC, hK, hA, ?_, ?_⟩ hnm ?_ ?_ hG hG2 ⟨hlen, hP, hD, va_S.rf, z_entry hal⟩ ?_ ?_ ?_
  · show 1 ≤ d + 1; omega
  · show 100 ≤ 100 * (d + 2); omega
  · show d + 1 ≤ d + 1; omega
  · show 100 * (d + 2) ≤ 100 * (d + 2); omega
  · show 0 + (h'.length - h.length) ≤ h'.length - h.length; omega
  · show 0 + (zslots h' - zslots h) ≤ zslots h' - zslots h; omega
  · intro ad' H1 locs1 pcR lsR ins g1 g2 g3 g4 g5 hdR hrt
    rw [Nat.zero_add, Nat.zero_add]
    have post : ∀ t : State, t.heap = H1 → s.WarmedH t.vm → zQc D cl dA ad h s.heap.size r h' (List.map (zv ad) as).toArray s (.returned (r.map (zv ad'))) t := fun t ht _ => ⟨ad', g1, g2, rfl, by rw [ht]; exact g3, g4, g5.F ht⟩
    unfold zrt at hrt
    split at hrt
    · rename_i hst
      cases hrt
      exact W.vret B.exec B.bytes B.returns post g5.2.2 hdR
    · rename_i ty v hst
      split at hrt
      · rename_i hnar
        have hr2 := congrArg (fun o => (Option.getD o (none, [])).1) hrt
        simp at hr2
        subst hr2
        exact W.zret B.exec B.bytes B.returns hnar post g5.2.2 hdR
      · cases hrt
    · rename_i ty k hst
      split at hrt
      · rename_i hisr
        have hr2 := congrArg (fun o => (Option.getD o (none, [])).1) hrt
        simp at hr2
        subst hr2
        refine W.aret B.exec B.bytes B.returns ?_ (Or.inr ⟨_, rfl⟩) post g5.2.2 hdR
        cases ty <;> first | exact Or.inl ⟨_, rfl⟩ | exact Or.inr ⟨_, rfl⟩ | cases hisr
      · cases hrt
    · cases hrt
