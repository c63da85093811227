/-! The tables' words by their places, and a check of every instruction. -/
def zisN : Jvm.Cond → Bool
  | .fieldLinkNest _ _ _ _ _ _ => true
  | .methodLinkNest _ _ _ _ => true
  | _ => false
def zT : List Jvm.Cond := lw_tbl.filter goodWord
def zN : List Jvm.Cond := lw_tbl.filter zisN
def zat (i : Nat) (w : Jvm.Cond) : Bool := goodWord w && decide (lw_tbl[i]? = some w)
def zatN (i : Nat) (w : Jvm.Cond) : Bool := zisN w && decide (lw_tbl[i]? = some w)
theorem zat_ok {i : Nat} {w : Jvm.Cond} (h : zat i w = true) : w ∈ zT := by
  unfold zat at h
  simp only [Bool.and_eq_true, decide_eq_true_eq] at h
  exact List.mem_filter.mpr ⟨List.mem_of_getElem? h.2, h.1⟩
theorem zatN_ok {i : Nat} {w : Jvm.Cond} (h : zatN i w = true) : w ∈ zN := by
  unfold zatN at h
  simp only [Bool.and_eq_true, decide_eq_true_eq] at h
  exact List.mem_filter.mpr ⟨List.mem_of_getElem? h.2, h.1⟩
def zckf (own : String) (i : Nat) (o n d : String) (j : Nat) : Bool := zat j (.fieldLink own i o n d) || zatN j (.fieldLinkNest own i o n d "PeaceRing")
theorem zckf_ok {own : String} {i : Nat} {o n d : String} {j : Nat} (h : zckf own i o n d j = true) : zlk zT zN own i o n d := by
  unfold zckf at h
  rcases Bool.or_eq_true _ _ |>.mp h with h | h
  · exact Or.inl (zat_ok h)
  · exact Or.inr ⟨_, zatN_ok h⟩
def zckm (own : String) (i : Nat) (y : MethodName) (j : Nat) : Bool := zat j (.methodLink own i y) || zatN j (.methodLinkNest own i y "PeaceRing")
theorem zckm_ok {own : String} {i : Nat} {y : MethodName} {j : Nat} (h : zckm own i y j = true) : zml zT zN own i y := by
  unfold zckm at h
  rcases Bool.or_eq_true _ _ |>.mp h with h | h
  · exact Or.inl (zat_ok h)
  · exact Or.inr ⟨_, zatN_ok h⟩
/-- a type as putfield's code has it -/
def zctc (c : Int) (ty : FieldType) : Bool := (decide (c % 10 = 0) && decide (ty = .int)) || (decide (c % 10 = 1) && decide (ty = .boolean)) || (decide (c % 10 = 2) && ty.isReference)
theorem zctc_ok {c : Int} {ty : FieldType} (h : zctc c ty = true) : ∀ (ad : Nat → Nat) v, zfits c v = true → narrow ty (zv ad v) = zv ad v ∧ fits ty (zv ad v) = true := by
  intro ad v hv
  unfold zctc at h
  simp only [Bool.or_eq_true, Bool.and_eq_true, decide_eq_true_eq] at h
  cases v <;> simp only [zfits, Bool.or_eq_true, Bool.and_eq_true, decide_eq_true_eq] at hv
  case int x =>
    rcases h with (⟨h1, rfl⟩ | ⟨h1, rfl⟩) | ⟨h1, h2⟩
    · exact ⟨rfl, rfl⟩
    · rcases hv with hv | ⟨-, rfl | rfl⟩
      · omega
      · exact ⟨rfl, rfl⟩
      · exact ⟨rfl, rfl⟩
    · rcases hv with hv | ⟨hv, -⟩ <;> omega
  case ref k =>
    rcases h with (⟨h1, rfl⟩ | ⟨h1, rfl⟩) | ⟨h1, h2⟩
    · omega
    · omega
    · cases ty <;> first | exact ⟨rfl, rfl⟩ | cases h2
  all_goals cases hv
/-- an instruction with its words' places -/
abbrev zPe : Type := Nat × zC × List Nat
def zcnr : Value → Bool
  | .ref _ => false
  | _ => true
def zck1 (cl : List vw_C) (df : Nat → Option (List Value)) (F : zNm) (own : String) (e : zC) (js : List Nat) : Bool :=
  match e, js with
  | (.getfield i, a, b, _), [j] => if a < 40 then (match cl[a]? with
      | some (_, T, N) => decide (b < N) && zckf own i (T b).1 (T b).2.1 (T b).2.2.1 j
      | none => false) else (match F.2.1 a b with
      | some (o, n, d) => zckf own i o n d j
      | none => false)
  | (.putfield i, a, b, c), [j] => (match cl[a]? with
      | some (_, T, N) => decide (b < N) && (match parseFieldDescriptor (T b).2.2.1 with
        | some ty => zctc c ty
        | none => false) && ((decide ((T b).2.2.2 = false) && zckf own i (T b).1 (T b).2.1 (T b).2.2.1 j) || (decide ((T b).2.2.2 = true) && decide (10 ≤ c) && decide ((T b).1 = own) && zat j (.fieldLink own i (T b).1 (T b).2.1 (T b).2.2.1)))
      | none => false)
  | (.getstatic i, a, _, _), [j] => (match F.1 a with
      | some (C, n, d) => zckf own i C n d j
      | none => false)
  | (.ldc i, a, _, c), js => (decide (a = 0) && (match js with | [j] => zat j (.constant own i (Int32.ofInt c)) | _ => false)) || (decide (a = 1) && decide (F.2.2 own i = some c.toNat))
  | (.ldc_w i, a, _, c), js => (decide (a = 0) && (match js with | [j] => zat j (.constant own i (Int32.ofInt c)) | _ => false)) || (decide (a = 1) && decide (F.2.2 own i = some c.toNat))
  | (.ldc2_w i, _, _, c), [j] => zat j (.constantLong own i (Int64.ofInt c))
  | (.checkcast i, _, _, _), [j] => zat j (.classLink own i "[LPeaceRing$Word;")
  | (.new i, a, _, _), [j1, j2, j3] => (match cl[a]?, df a with
      | some (C, T, N), some fs => zat j1 (.classLink own i C) && zat j2 (.instantiable C N) && zat j3 (.initialized C) && decide (fs.length = N) && fs.all zcnr && (List.range N).all (fun k => match parseFieldDescriptor (T k).2.2.1 with
        | some ty => decide (defaultValue ty = vp_V fs k)
        | none => false)
      | _, _ => false)
  | (.anewarray i, a, _, _), [j] => (decide (a = 51) && zat j (.classLink own i "PeaceRing$Word")) || (decide (a = 52) && zat j (.classLink own i "PeaceRing$Version")) || (decide (a = 53) && zat j (.classLink own i "java/lang/String"))
  | (.multianewarray i _, _, _, _), [j] => zat j (.classLink own i "[[I")
  | _, _ => false
def zck2 (cl : List vw_C) (M : zM) (own : String) (e : zC) (js : List Nat) : Bool :=
  match e, js with
  | (.invokestatic i, a, b, _), [j1, j2] => (match M a with
      | some (y, _, _, _) => decide (1 ≤ a ∧ a < 9000) && decide ((parseMethodDescriptor y.desc).map (fun d => d.parameters.length) = some b) && zckm own i y j1 && zat j2 (.static y)
      | none => false)
  | (.invokespecial i, a, b, _), [j1, j2] => (match M a with
      | some (y, _, _, r) => decide (1 ≤ a ∧ a < 9000) && decide ((parseMethodDescriptor y.desc).map (fun d => d.parameters.length) = some b) && zckm own i y j1 && zat j2 (.instanceMethod y) && decide (y.name = "<init>") && decide (r = none)
      | none => false)
  | (.invokevirtual i, a, b, c), [j1, j2, j3] => (match M a with
      | some (y, _, _, _) => decide (1 ≤ a ∧ a < 9000) && decide ((parseMethodDescriptor y.desc).map (fun d => d.parameters.length) = some b) && zckm own i y j1 && zat j2 (.instanceMethod y) &&
          (if c = 41 then zat j3 (.selects "java/lang/String" y y) else (match cl[c.toNat]? with
            | some (C, _, _) => zat j3 (.selects C y y)
            | none => false))
      | none => false)
  | (.invokespecial i, 9998, _, _), [j1, j2, j3] => zat j1 (.methodLink own i Lib.objectInit) && zat j2 (.instanceMethod Lib.objectInit) && zat j3 (.code Lib.objectInit ⟨#[0xb1]⟩ 1 none)
  | (.invokestatic i, 9999, _, _), [j1, j2, j3, j4] => zat j1 (.methodLink own i arraycopyName) && zat j2 (.native arraycopyName) && zat j3 (.static arraycopyName) && zat j4 (.initialized "java/lang/System")
  | (.invokevirtual i, 9997, _, _), [j1, j2, j3, j4, j5] => zat j1 (.methodLink own i zcln) && zat j2 (.sameMethod "[LPeaceRing$Word;" "java/lang/Object" "clone" "()Ljava/lang/Object;") && zat j3 (.native zcln0) && zat j4 (.instanceMethod zcln0) && zat j5 (.selects "[LPeaceRing$Word;" zcln zcln0)
  | _, _ => false
theorem zck1_ok {cl : List vw_C} {E : zS} {F : zNm} {own mname : String} {ins : Instr} {a b : Nat} {c : Int} {js : List Nat} (hm : 10 ≤ c → mname = "<init>") (hai : Jvm.Cond.arrayClass .int ∈ zT) (h : zck1 cl E.2.2.2 F own (ins, a, b, c) js = true) : zokH cl E F zT zN own mname ins a b c ∧ ¬ zkd ins a = 6 := by
  unfold zck1 at h
  split at h
  · rename_i heq
    cases heq
    refine ⟨⟨⟨fun ha => ?_, fun ha => ?_⟩, trivial, trivial⟩, by simp [zkd]⟩
    · rw [if_pos ha] at h
      split at h
      · rename_i C T N hcl
        simp only [Bool.and_eq_true, decide_eq_true_eq] at h
        exact ⟨C, T, N, hcl, h.1, zckf_ok h.2⟩
      · cases h
    · rw [if_neg ha] at h
      split at h
      · rename_i o n d hF
        exact ⟨o, n, d, hF, zckf_ok h⟩
      · cases h
  · rename_i heq
    cases heq
    split at h
    · rename_i C T N hcl
      simp only [Bool.and_eq_true, Bool.or_eq_true, decide_eq_true_eq] at h
      obtain ⟨⟨h1, h2⟩, h3⟩ := h
      split at h2
      · rename_i ty hty
        refine ⟨⟨⟨C, T, N, ty, hcl, h1, hty, zctc_ok h2, ?_⟩, trivial, trivial⟩, by simp [zkd]⟩
        rcases h3 with ⟨h3, h4⟩ | ⟨⟨⟨h3, h4⟩, h5⟩, h6⟩
        · exact Or.inl ⟨h3, zckf_ok h4⟩
        · exact Or.inr ⟨h3, hm h4, h5, zat_ok h6⟩
      · cases h2
    · cases h
  · rename_i heq
    cases heq
    split at h
    · rename_i C n d hF
      exact ⟨⟨⟨C, n, d, hF, zckf_ok h⟩, trivial, trivial⟩, by simp [zkd]⟩
    · cases h
  · rename_i heq
    cases heq
    refine ⟨⟨⟨fun ha => ?_, fun ha => ?_⟩, trivial, trivial⟩, by simp [zkd]⟩
    · subst ha
      simp at h
      split at h
      · exact zat_ok h
      · cases h
    · subst ha
      simpa using h
  · rename_i heq
    cases heq
    refine ⟨⟨⟨fun ha => ?_, fun ha => ?_⟩, trivial, trivial⟩, by simp [zkd]⟩
    · subst ha
      simp at h
      split at h
      · exact zat_ok h
      · cases h
    · subst ha
      simpa using h
  · rename_i heq
    cases heq
    exact ⟨⟨zat_ok h, trivial, trivial⟩, by simp [zkd]⟩
  · rename_i heq
    cases heq
    exact ⟨⟨zat_ok h, trivial, trivial⟩, by simp [zkd]⟩
  · rename_i heq
    cases heq
    split at h
    · rename_i C T N fs hcl hdf
      simp only [Bool.and_eq_true, decide_eq_true_eq] at h
      obtain ⟨⟨⟨⟨⟨h1, h2⟩, h3⟩, h4⟩, h5⟩, h6⟩ := h
      have h6' : ∀ k, k < N → ∃ ty, parseFieldDescriptor (T k).2.2.1 = some ty ∧ defaultValue ty = vp_V fs k := by
        intro k hk
        have := List.all_eq_true.mp h6 k (List.mem_range.mpr hk)
        split at this
        · rename_i ty hty
          exact ⟨ty, hty, by simpa using this⟩
        · cases this
      refine ⟨⟨trivial, ⟨C, T, N, fun k => (parseFieldDescriptor (T k).2.2.1).getD .int, fs, hcl, zat_ok h1, zat_ok h2, zat_ok h3, fun k hk => ?_, hdf, h4, fun v hv ad => ?_, fun j hj => ?_⟩, trivial⟩, by simp [zkd]⟩
      · obtain ⟨ty, hty, -⟩ := h6' k hk
        simp [hty]
      · have := List.all_eq_true.mp h5 v hv
        cases v <;> first | rfl | cases this
      · obtain ⟨ty, hty, hd⟩ := h6' j hj
        simpa [hty] using hd
    · cases h
  · rename_i heq
    cases heq
    simp only [Bool.and_eq_true, Bool.or_eq_true, decide_eq_true_eq] at h
    refine ⟨⟨trivial, ?_, trivial⟩, by simp [zkd]⟩
    rcases h with (⟨h1, h2⟩ | ⟨h1, h2⟩) | ⟨h1, h2⟩
    · exact Or.inl ⟨h1, zat_ok h2⟩
    · exact Or.inr (Or.inl ⟨h1, zat_ok h2⟩)
    · exact Or.inr (Or.inr ⟨h1, zat_ok h2⟩)
  · rename_i heq
    cases heq
    exact ⟨⟨trivial, ⟨zat_ok h, hai⟩, trivial⟩, by simp [zkd]⟩
  · cases h
theorem zck2_ok {cl : List vw_C} {E : zS} {F : zNm} {M : zM} {own mname : String} {ins : Instr} {a b : Nat} {c : Int} {js : List Nat} (h : zck2 cl M own (ins, a, b, c) js = true) : (zkd ins a = 4 → zokH cl E F zT zN own mname ins a b c) ∧ (zkd ins a = 6 → zokC cl M zT zN own ins a b c) := by
  unfold zck2 at h
  split at h
  · rename_i heq
    cases heq
    split at h
    · rename_i y bt n r hy
      simp only [Bool.and_eq_true, decide_eq_true_eq] at h
      obtain ⟨⟨⟨⟨h0, h00⟩, h1⟩, h2⟩, h3⟩ := h
      refine ⟨fun hk => ?_, fun _ => ⟨y, bt, n, r, h0, hy, h1, zckm_ok h2, zat_ok h3⟩⟩
      simp [zkd] at hk
      omega
    · cases h
  · rename_i heq
    cases heq
    split at h
    · rename_i y bt n r hy
      simp only [Bool.and_eq_true, decide_eq_true_eq] at h
      obtain ⟨⟨⟨⟨⟨⟨h0, h00⟩, h1⟩, h2⟩, h3⟩, h4⟩, h5⟩ := h
      refine ⟨fun hk => ?_, fun _ => ⟨y, bt, n, r, h0, hy, h1, zckm_ok h2, h4, zat_ok h3, h5⟩⟩
      simp [zkd] at hk
      omega
    · cases h
  · rename_i heq
    cases heq
    split at h
    · rename_i y bt n r hy
      simp only [Bool.and_eq_true, decide_eq_true_eq] at h
      obtain ⟨⟨⟨⟨⟨h0, h00⟩, h1⟩, h2⟩, h3⟩, h4⟩ := h
      refine ⟨fun hk => ?_, fun _ => ⟨y, bt, n, r, h0, hy, h1, ?_⟩⟩
      · simp [zkd] at hk
        omega
      · split at h4
        · rename_i hc
          exact ⟨_, zckm_ok h2, zat_ok h3, zat_ok h4, Or.inl ⟨hc, rfl⟩⟩
        · rename_i hc
          split at h4
          · rename_i C T N hcl
            exact ⟨C, zckm_ok h2, zat_ok h3, zat_ok h4, Or.inr ⟨hc, T, N, hcl⟩⟩
          · cases h4
    · cases h
  · rename_i heq
    cases heq
    simp only [Bool.and_eq_true] at h
    exact ⟨fun _ => ⟨trivial, trivial, fun _ => ⟨zat_ok h.1.1, zat_ok h.1.2, zat_ok h.2⟩⟩, fun hk => by simp [zkd] at hk⟩
  · rename_i heq
    cases heq
    simp only [Bool.and_eq_true] at h
    exact ⟨fun _ => ⟨trivial, trivial, fun _ => ⟨zat_ok h.1.1.1, zat_ok h.1.1.2, zat_ok h.1.2, zat_ok h.2⟩⟩, fun hk => by simp [zkd] at hk⟩
  · rename_i heq
    cases heq
    simp only [Bool.and_eq_true] at h
    exact ⟨fun _ => ⟨trivial, trivial, fun _ => ⟨zat_ok h.1.1.1.1, zat_ok h.1.1.1.2, zat_ok h.1.1.2, zat_ok h.1.2, zat_ok h.2⟩⟩, fun hk => by simp [zkd] at hk⟩
  · cases h
/-- instructions that need no word (but of arrays of ints) -/
def zpl : Instr → Bool
  | .getfield _ => false | .putfield _ => false | .getstatic _ => false | .ldc _ => false | .ldc_w _ => false | .ldc2_w _ => false | .checkcast _ => false
  | .new _ => false | .anewarray _ => false | .multianewarray _ _ => false | .invokestatic _ => false | .invokespecial _ => false | .invokevirtual _ => false
  | _ => true
theorem zpl_ok {cl : List vw_C} {E : zS} {F : zNm} {own mname : String} {ins : Instr} {a b : Nat} {c : Int} (hai : Jvm.Cond.arrayClass .int ∈ zT) (hab : Jvm.Cond.arrayClass .byte ∈ zT) (h : zpl ins = true) : zokH cl E F zT zN own mname ins a b c ∧ ¬ zkd ins a = 6 := by
  cases ins <;> first | (cases h; done) | (refine ⟨⟨trivial, trivial, trivial⟩, ?_⟩; simp [zkd]; done) | skip
  case newarray ty =>
    refine ⟨⟨trivial, ?_, trivial⟩, by simp [zkd]⟩
    cases ty <;> first | exact hai | exact hab | trivial
/-- a method: the number of its class's name, its name and what the machine has of it, the places of two words, its instructions (those with words by their number in the pool) -/
abbrev zMe : Type := Nat × (MethodName × ByteArray × Nat × Option FieldType) × (Nat × Nat) × List (Nat × List (Nat × (Instr ⊕ Nat)))
def zfd {α : Type} (l : List (Nat × List (Nat × α))) (pc : Nat) : Option α :=
  match l.find? (fun q => decide (pc < q.1)) with
  | some q => (q.2.find? (fun e => decide (e.1 = pc))).map (fun e => e.2)
  | none => none
theorem zfd_ok {α : Type} {l : List (Nat × List (Nat × α))} {pc : Nat} {x : α} (h : zfd l pc = some x) : ∃ q ∈ l, (pc, x) ∈ q.2 := by
  unfold zfd at h
  split at h
  · rename_i q hq
    rw [Option.map_eq_some_iff] at h
    obtain ⟨e, he, rfl⟩ := h
    have h1 := List.find?_some he
    simp only [decide_eq_true_eq] at h1
    obtain ⟨e1, e2⟩ := e
    simp only at h1
    subst h1
    exact ⟨q, List.mem_of_find?_eq_some hq, List.mem_of_find?_eq_some he⟩
  · cases h
def zpg (pool : List (List zPe)) (j : Nat) : Option zPe := (pool[j / 50]?).bind (fun l => l[j % 50]?)
def zPof (prog : List zMe) (pool : List (List zPe)) : zP := fun mi pc =>
  match prog[mi]? with
  | some q => (match zfd q.2.2.2 pc with
    | some (.inl ins) => some (ins, 0, 0, 0)
    | some (.inr j) => (zpg pool j).map (fun e => e.2.1)
    | none => none)
  | none => none
def zMof (prog : List zMe) : zM := fun mi => (prog[mi]?).map (fun q => q.2.1)
def zdk (bt : ByteArray) (pc : Nat) (ins : Instr) : Bool := match decode bt pc with
  | .ok (i, len) => decide (i = ins) && (decide (zlen ins = 0) || decide (zlen ins = len))
  | .error _ => false
theorem zdk_ok {bt : ByteArray} {pc : Nat} {ins : Instr} (h : zdk bt pc ins = true) : ∃ len, decode bt pc = .ok (ins, len) ∧ (zlen ins = 0 ∨ zlen ins = len) := by
  unfold zdk at h
  split at h
  · rename_i i len hd
    simp only [Bool.and_eq_true, Bool.or_eq_true, decide_eq_true_eq] at h
    exact ⟨len, by rw [hd, h.1], h.2⟩
  · cases h
/-- an instruction's check -/
def zec (pool : List (List zPe)) (o0 : Nat) (nm : String) (bt : ByteArray) (e : Nat × (Instr ⊕ Nat)) : Bool := match e.2 with
    | .inl ins => zpl ins && zdk bt e.1 ins
    | .inr j => (match zpg pool j with
      | some (o, (ins, _, _, c), _) => decide (o = o0) && (decide (c < 10) || decide (nm = "<init>") || !(match ins with | .putfield _ => true | _ => false)) && zdk bt e.1 ins
      | none => false)
/-- a method's check -/
def zmck (owns : List String) (pool : List (List zPe)) (q : zMe) : Bool :=
  decide (owns[q.1]? = some q.2.1.1.cls) && q.2.2.2.all (fun l => l.2.all (zec pool q.1 q.2.1.1.name q.2.1.2.1))
theorem zmck_of {owns : List String} {pool : List (List zPe)} {o : Nat} {y : MethodName} {bt : ByteArray} {n : Nat} {r : Option FieldType} {w : Nat × Nat} {l : List (Nat × List (Nat × (Instr ⊕ Nat)))} (h1 : owns[o]? = some y.cls) (h2 : ∀ q ∈ l, q.2.all (zec pool o y.name bt) = true) : zmck owns pool (o, (y, bt, n, r), w, l) = true := by
  unfold zmck
  rw [Bool.and_eq_true]
  exact ⟨by simpa using h1, List.all_eq_true.mpr h2⟩
/-- a method's own words, but its code -/
def zmwk (q : zMe) : Bool := plainFor q.2.1.1 && zat q.2.2.1.2 (.initialized q.2.1.1.cls) && decide (q.2.1.1.cls ≠ "java/lang/invoke/MethodHandle" ∧ q.2.1.1.cls ≠ "java/lang/invoke/VarHandle") && decide (q.2.1.2.2.1 ≤ 80)
theorem zT_good : ∀ w ∈ zT, (w.onTables && w.keeps) = true ∨ ∃ ty, w = .arrayClass ty := fun w hw => good_of_word (List.mem_filter.mp hw).2
theorem zokM_of {prog : List zMe} (h : ∀ q ∈ prog.drop 1, zmwk q = true) (hcode : ∀ q ∈ prog.drop 1, Jvm.Cond.code q.2.1.1 q.2.1.2.1 q.2.1.2.2.1 q.2.1.2.2.2 ∈ zT) : zokM (zMof prog) zT := by
  refine ⟨fun a y bt n r ha h1 => ?_, zT_good⟩
  unfold zMof at ha
  rw [Option.map_eq_some_iff] at ha
  obtain ⟨q, hq, hq2⟩ := ha
  have hm : q ∈ prog.drop 1 := by
    refine List.mem_of_getElem? (i := a - 1) ?_
    rw [List.getElem?_drop, show 1 + (a - 1) = a by omega]
    exact hq
  have := h q hm
  have hc := hcode q hm
  unfold zmwk at this
  rw [hq2] at this hc
  simp only [Bool.and_eq_true, decide_eq_true_eq] at this
  obtain ⟨⟨⟨h3, h4⟩, h5⟩, h6⟩ := this
  exact ⟨hc, h3, zat_ok h4, h5, h6⟩
theorem zcode_of {i : Nat} {w : Jvm.Cond} (h : lw_tbl[i]? = some w) (hg : goodWord w = true) : w ∈ zT := List.mem_filter.mpr ⟨List.mem_of_getElem? h, hg⟩
theorem zokP_of {cl : List vw_C} {E : zS} {F : zNm} {prog : List zMe} {pool : List (List zPe)} {owns : List String} (hai : Jvm.Cond.arrayClass .int ∈ zT) (hab : Jvm.Cond.arrayClass .byte ∈ zT)
    (h1 : ∀ q ∈ prog, zmck owns pool q = true) (h2 : ∀ l ∈ pool, ∀ e ∈ l, ∃ own, owns[e.1]? = some own ∧ (zck1 cl E.2.2.2 F own e.2.1 e.2.2 = true ∨ zck2 cl (zMof prog) own e.2.1 e.2.2 = true)) : zokP cl (zPof prog pool) (zMof prog) E F zT zN := by
  intro mi pc ins a b c hp y bt n r hm
  unfold zMof at hm
  rw [Option.map_eq_some_iff] at hm
  obtain ⟨q, hq, hq2⟩ := hm
  have hck := h1 q (List.mem_of_getElem? hq)
  unfold zPof at hp
  rw [hq] at hp
  dsimp only at hp
  unfold zmck at hck
  rw [hq2] at hck
  simp only [Bool.and_eq_true, decide_eq_true_eq] at hck
  obtain ⟨hown, hall⟩ := hck
  split at hp
  · rename_i i0 hf
    cases hp
    obtain ⟨l, hl, he⟩ := zfd_ok hf
    have := List.all_eq_true.mp (List.all_eq_true.mp hall l hl) _ he
    unfold zec at this
    dsimp only at this
    rw [Bool.and_eq_true] at this
    obtain ⟨g1, g2⟩ := zpl_ok (cl := cl) (E := E) (F := F) (own := y.cls) (mname := y.name) (a := 0) (b := 0) (c := 0) hai hab this.1
    exact ⟨zdk_ok this.2, fun _ => g1, fun hk => absurd hk g2⟩
  · rename_i j hf
    rw [Option.map_eq_some_iff] at hp
    obtain ⟨e, he, he2⟩ := hp
    obtain ⟨l, hl, hel⟩ := zfd_ok hf
    have := List.all_eq_true.mp (List.all_eq_true.mp hall l hl) _ hel
    unfold zec at this
    dsimp only at this
    rw [he] at this
    obtain ⟨o, ⟨ins', a', b', c'⟩, js⟩ := e
    cases he2
    simp only [Bool.and_eq_true, Bool.or_eq_true, decide_eq_true_eq] at this
    obtain ⟨⟨g1, g2⟩, g3⟩ := this
    obtain ⟨l2, hl2, he3⟩ : ∃ l2 ∈ pool, (o, (ins, a, b, c), js) ∈ l2 := by
      unfold zpg at he
      rw [Option.bind_eq_some_iff] at he
      obtain ⟨l2, hl2, hl3⟩ := he
      exact ⟨l2, List.mem_of_getElem? hl2, List.mem_of_getElem? hl3⟩
    obtain ⟨own, ho1, ho2⟩ := h2 l2 hl2 _ he3
    dsimp only at ho1 ho2
    rw [g1, hown] at ho1
    cases ho1
    refine ⟨zdk_ok g3, ?_⟩
    rcases ho2 with ho2 | ho2
    · by_cases hput : ∃ i, ins = .putfield i
      · obtain ⟨i, rfl⟩ := hput
        obtain ⟨k1, k2⟩ := zck1_ok (E := E) (mname := y.name) (fun h10 => by
          rcases g2 with (g2 | g2) | g2
          · omega
          · exact g2
          · simp at g2) hai ho2
        exact ⟨fun _ => k1, fun hk => absurd hk k2⟩
      · have hc0 : (10 ≤ c → y.name = "<init>") ∨ True := Or.inr trivial
        have hz : zokH cl E F zT zN y.cls "<init>" ins a b c ∧ ¬ zkd ins a = 6 := zck1_ok (E := E) (mname := "<init>") (fun _ => rfl) hai ho2
        refine ⟨fun _ => ⟨?_, hz.1.2⟩, fun hk => absurd hk hz.2⟩
        have := hz.1.1
        cases ins <;> first | exact this | exact absurd ⟨_, rfl⟩ hput
    · exact zck2_ok ho2
  · cases hp
