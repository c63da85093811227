/-! Equations of the instructions on the heap, one read or write each. -/
def zfl (h : zH) (k a b : Nat) : Option Value := match h[k]? with
  | some (.inr (ci, fs)) => if ci = a then fs[b]? else none
  | _ => none
def zsf (h : zH) (k a b : Nat) (c : Int) (v : Value) : Option zH := match h[k]? with
  | some (.inr (ci, fs)) => if ci = a ∧ a < 40 ∧ b < fs.length ∧ zfits c v = true then some (h.set k (.inr (ci, fs.set b v))) else none
  | _ => none
def zgi (E : zS) (h : zH) (k : Nat) (i : Int32) (t : Nat) : Option Int32 := match zarr E h k with
  | some (t', xs) => if t' = t then (zix i xs.length).map (fun j => xs.getD j 0) else none
  | _ => none
def zsi (h : zH) (k : Nat) (i x : Int32) (t : Nat) : Option zH := match h[k]? with
  | some (.inl (t', xs)) => if t' = t then (zix i xs.length).map (fun j => h.set k (.inl (t, xs.set j (if t = 1 then x.toInt8.toInt32 else x)))) else none
  | _ => none
def zgr (h : zH) (k : Nat) (i : Int32) : Option Nat := match h[k]? with
  | some (.inr (t, vs)) => if 50 ≤ t ∧ t ≤ 53 then (zix i vs.length).bind (fun j => match vs.getD j .null with
      | .ref x => some x
      | _ => none) else none
  | _ => none
def zsr (E : zS) (h : zH) (k : Nat) (i : Int32) (x : Nat) : Option zH := match h[k]? with
  | some (.inr (t, vs)) => if (t = 52 ∧ zisv h x = true) ∨ (t = 51 ∧ zisE E x = true) ∨ (t = 53 ∧ zisS E x = true) then (zix i vs.length).map (fun j => h.set k (.inr (t, vs.set j (.ref x)))) else none
  | _ => none
def zln (E : zS) (h : zH) (k : Nat) : Option Int32 := match zarr E h k with
  | some (t, xs) => if t ≤ 1 then some (Int32.ofNat xs.length) else none
  | none => (match h[k]? with
    | some (.inr (t, vs)) => if 50 ≤ t ∧ t ≤ 53 then some (Int32.ofNat vs.length) else none
    | _ => none)
def zrc (h : zH) (k : Nat) (c : Int) : Bool := match h[k]? with
  | some (.inr (ci, _)) => decide ((ci : Int) = c ∧ ci < 40)
  | _ => false
section RM
variable {E : zS} {d mi pc a b : Nat} {c : Int} {L st : List Value} {h : zH} {ins : Instr}
theorem rv_getf {i k : Nat} (hp : zP1 mi pc = some (.getfield i, a, b, c)) (ha : a < 40) : rv E d mi pc L (.ref k :: st) h = (zfl h k a b).bind (fun v => rv E d mi (pc + 3) L (v :: st) h) := by
  rw [rv_hpm hp rfl]
  simp only [zhp, zgetf, if_pos ha, zfl]
  cases h[k]? with
  | none => rfl
  | some e =>
    obtain ⟨t, xs⟩ | ⟨ci, fs⟩ := e
    · rfl
    · dsimp only
      split
      · cases fs[b]? <;> rfl
      · rfl
theorem rv_getg {i k : Nat} (hp : zP1 mi pc = some (.getfield i, a, b, c)) (ha : ¬ a < 40) : rv E d mi pc L (.ref k :: st) h = (E.2.1 k a b).bind (fun v => rv E d mi (pc + 3) L (v :: st) h) := by
  rw [rv_hpm hp rfl]
  simp only [zhp, zgetf, if_neg ha]
  cases E.2.1 k a b <;> rfl
theorem rv_putf {i k : Nat} {v : Value} (hp : zP1 mi pc = some (.putfield i, a, b, c)) : rv E d mi pc L (v :: .ref k :: st) h = (zsf h k a b c v).bind (fun h' => rv E d mi (pc + 3) L st h') := by
  rw [rv_hpm hp rfl]
  simp only [zhp, zputf, zsf]
  cases h[k]? with
  | none => rfl
  | some e =>
    obtain ⟨t, xs⟩ | ⟨ci, fs⟩ := e
    · rfl
    · dsimp only
      split <;> rfl
theorem rv_gets {i : Nat} (hp : zP1 mi pc = some (.getstatic i, a, b, c)) : rv E d mi pc L st h = (E.1 a).bind (fun v => rv E d mi (pc + 3) L (v :: st) h) := by
  rw [rv_hpm hp rfl]
  simp only [zhp]
  cases E.1 a <;> rfl
theorem rv_ald {k t : Nat} {i : Int32} (hi : (t = 0 ∧ ins = .iaload) ∨ (t = 1 ∧ ins = .baload)) (hp : zP1 mi pc = some (ins, a, b, c)) : rv E d mi pc L (.int i :: .ref k :: st) h = (zgi E h k i t).bind (fun x => rv E d mi (pc + 1) L (.int x :: st) h) := by
  have key : ∀ f : List Value × zH → Option (Option Value × zH), (zald E t (.int i :: .ref k :: st) h).bind f = (zgi E h k i t).bind (fun x => f (.int x :: st, h)) := by
    intro f
    simp only [zald, zgi]
    cases zarr E h k with
    | none => rfl
    | some e =>
      obtain ⟨t', xs⟩ := e
      dsimp only
      split
      · cases zix i xs.length <;> rfl
      · rfl
  rcases hi with ⟨rfl, rfl⟩ | ⟨rfl, rfl⟩
  · rw [rv_hpm hp rfl]
    exact key _
  · rw [rv_hpm hp rfl]
    exact key _
theorem rv_ast {k t : Nat} {i x : Int32} (hi : (t = 0 ∧ ins = .iastore) ∨ (t = 1 ∧ ins = .bastore)) (hp : zP1 mi pc = some (ins, a, b, c)) : rv E d mi pc L (.int x :: .int i :: .ref k :: st) h = (zsi h k i x t).bind (fun h' => rv E d mi (pc + 1) L st h') := by
  have key : ∀ f : List Value × zH → Option (Option Value × zH), (zast t (.int x :: .int i :: .ref k :: st) h).bind f = (zsi h k i x t).bind (fun h' => f (st, h')) := by
    intro f
    simp only [zast, zsi]
    cases h[k]? with
    | none => rfl
    | some e =>
      obtain ⟨t', xs⟩ | ⟨ci, fs⟩ := e
      · dsimp only
        split
        · cases zix i xs.length <;> rfl
        · rfl
      · rfl
  rcases hi with ⟨rfl, rfl⟩ | ⟨rfl, rfl⟩
  · rw [rv_hpm hp rfl]
    exact key _
  · rw [rv_hpm hp rfl]
    exact key _
theorem rv_aald {k : Nat} {i : Int32} (hp : zP1 mi pc = some (.aaload, a, b, c)) : rv E d mi pc L (.int i :: .ref k :: st) h = (zgr h k i).bind (fun x => rv E d mi (pc + 1) L (.ref x :: st) h) := by
  rw [rv_hpm hp rfl]
  simp only [zhp, zaald, zgr]
  cases h[k]? with
  | none => rfl
  | some e =>
    obtain ⟨t', xs⟩ | ⟨ci, vs⟩ := e
    · rfl
    · dsimp only
      split
      · cases zix i vs.length with
        | none => rfl
        | some j =>
          simp only [Option.bind_some]
          cases vs.getD j .null <;> rfl
      · rfl
theorem rv_aast {k x : Nat} {i : Int32} (hp : zP1 mi pc = some (.aastore, a, b, c)) : rv E d mi pc L (.ref x :: .int i :: .ref k :: st) h = (zsr E h k i x).bind (fun h' => rv E d mi (pc + 1) L st h') := by
  rw [rv_hpm hp rfl]
  simp only [zhp, zaast, zsr]
  cases h[k]? with
  | none => rfl
  | some e =>
    obtain ⟨t', xs⟩ | ⟨ci, vs⟩ := e
    · rfl
    · dsimp only
      split
      · cases zix i vs.length <;> rfl
      · rfl
theorem rv_alen {k : Nat} (hp : zP1 mi pc = some (.arraylength, a, b, c)) : rv E d mi pc L (.ref k :: st) h = (zln E h k).bind (fun n => rv E d mi (pc + 1) L (.int n :: st) h) := by
  rw [rv_hpm hp rfl]
  simp only [zhp, zalen, zln]
  cases zarr E h k with
  | some e =>
    obtain ⟨t', xs⟩ := e
    dsimp only
    split <;> rfl
  | none =>
    dsimp only
    cases h[k]? with
    | none => rfl
    | some e =>
      obtain ⟨t', xs⟩ | ⟨ci, vs⟩ := e
      · rfl
      · dsimp only
        split <;> rfl
theorem rv_const {n : Int} {v : Int32} (hp : zP1 mi pc = some (.iconst n, a, b, c)) (hv : Int32.ofInt n = v) : rv E d mi pc L st h = rv E d mi (pc + 1) L (.int v :: st) h := by
  subst hv
  exact rv_stk hp rfl rfl
theorem rv_bip {n : Int} {v : Int32} (hp : zP1 mi pc = some (.bipush n, a, b, c)) (hv : (Int8.ofInt n).toInt32 = v) : rv E d mi pc L st h = rv E d mi (pc + 2) L (.int v :: st) h := by
  subst hv
  exact rv_stk hp rfl rfl
theorem rv_sip {n : Int} {v : Int32} (hp : zP1 mi pc = some (.sipush n, a, b, c)) (hv : (Int16.ofInt n).toInt32 = v) : rv E d mi pc L st h = rv E d mi (pc + 3) L (.int v :: st) h := by
  subst hv
  exact rv_stk hp rfl rfl
theorem rv_ldci {i : Nat} {v : Int32} (hi : ins = .ldc i ∨ ins = .ldc_w i) (hp : zP1 mi pc = some (ins, 0, b, c)) (hv : Int32.ofInt c = v) : rv E d mi pc L st h = rv E d mi (pc + zlen ins) L (.int v :: st) h := by
  subst hv
  rcases hi with rfl | rfl
  · rw [rv_hpm hp rfl]; rfl
  · rw [rv_hpm hp rfl]; rfl
theorem rv_ldcs {i k : Nat} (hi : ins = .ldc i ∨ ins = .ldc_w i) (hp : zP1 mi pc = some (ins, 1, b, c)) (hv : c.toNat = k) : rv E d mi pc L st h = rv E d mi (pc + zlen ins) L (.ref k :: st) h := by
  subst hv
  rcases hi with rfl | rfl
  · rw [rv_hpm hp rfl]; rfl
  · rw [rv_hpm hp rfl]; rfl
theorem rv_ldcl {i : Nat} {v : Int64} (hp : zP1 mi pc = some (.ldc2_w i, a, b, c)) (hv : Int64.ofInt c = v) : rv E d mi pc L st h = rv E d mi (pc + 3) L (.long v :: st) h := by
  subst hv
  rw [rv_hpm hp rfl]
  rfl
theorem rv_sto {i : Nat} {t : Nat} {L' st' : List Value} (hp : zP1 mi pc = some (ins, a, b, c)) (hi : zloc ins L st = zsto i L st t) (hk : zkd ins a = 1) (h1 : zsto i L st t = some (L', st')) : rv E d mi pc L st h = rv E d mi (pc + zlen ins) L' st' h := rv_loc hp hk (hi.trans h1)
theorem rv_inc {i : Nat} {n : Int} {L' : List Value} (hp : zP1 mi pc = some (.iinc i n, a, b, c)) (h1 : zinc i n L = some L') : rv E d mi pc L st h = rv E d mi (pc + 3) L' st h := rv_loc hp rfl (by simp only [zloc, h1, Option.map_some])
theorem rv_rets {y : MethodName} {bt : ByteArray} {nL : Nat} {ty : FieldType} {v : Int32} (hp : zP1 mi pc = some (.ireturn, a, b, c)) (hm : zM1 mi = some (y, bt, nL, some ty)) : rv E d mi pc L [.int v] h = if narrow ty (.int v) = .int v then some (some (.int v), h) else none := by
  rw [rv_ret hp rfl hm]
  rfl
theorem rv_reti {y : MethodName} {bt : ByteArray} {nL : Nat} {v : Int32} (hp : zP1 mi pc = some (.ireturn, a, b, c)) (hm : zM1 mi = some (y, bt, nL, some .int)) : rv E d mi pc L [.int v] h = some (some (.int v), h) := by
  rw [rv_rets hp hm]
  exact if_pos rfl
theorem rv_retv {y : MethodName} {bt : ByteArray} {nL : Nat} (hp : zP1 mi pc = some (.return_, a, b, c)) (hm : zM1 mi = some (y, bt, nL, none)) : rv E d mi pc L [] h = some (none, h) := by
  rw [rv_ret hp rfl hm]
  rfl
theorem rv_reta {y : MethodName} {bt : ByteArray} {nL : Nat} {ty : FieldType} {k : Nat} (hp : zP1 mi pc = some (.areturn, a, b, c)) (hm : zM1 mi = some (y, bt, nL, some ty)) (ht : ty.isReference = true) : rv E d mi pc L [.ref k] h = some (some (.ref k), h) := by
  rw [rv_ret hp rfl hm]
  simp [zrt, ht]
/-- what goes on behind a call -/
noncomputable def zth (E : zS) (d mi pc : Nat) (L rest : List Value) (h : zH) (q : Option Value × zH) : Option (Option Value × zH) :=
  if q.2.length = h.length ∨ ((L ++ rest).all (zfree h.length q.2.length)) = true then rv E d mi pc L (q.1.toList ++ rest) q.2 else none
theorem zth_eq {rest : List Value} {q : Option Value × zH} (hl : q.2.length = h.length) : zth E d mi pc L rest h q = rv E d mi pc L (q.1.toList ++ rest) q.2 := if_pos (Or.inl hl)
theorem rv_calls {i a b : Nat} {as rest : List Value} {y : MethodName} {bt : ByteArray} {nL : Nat} {ret : Option FieldType} (hp : zP1 mi pc = some (.invokestatic i, a, b, c)) (hk : a < 9000) (hm : zM1 a = some (y, bt, nL, ret)) (hb : as.length = b) (hl : (zargs as).length ≤ nL ∧ zcs rest ≤ 8) :
    rv E (d + 1) mi pc L (as.reverse ++ rest) h = (rv E d a 0 (zent nL as) [] h).bind (zth E (d + 1) mi (pc + 3) L rest h) := by
  refine rv_call (as := as) (rest := rest) hp (by simp only [zkd]; rw [if_neg (by omega)]) hm ?_ hl
  subst hb
  unfold zas
  rw [if_pos (by simp)]
  rw [List.drop_left' (by simp), List.take_left' (by simp), List.reverse_reverse]
theorem rv_callp {i a b k : Nat} {as rest : List Value} {y : MethodName} {bt : ByteArray} {nL : Nat} {ret : Option FieldType} (hp : zP1 mi pc = some (.invokespecial i, a, b, c)) (hk : a < 9000) (hm : zM1 a = some (y, bt, nL, ret)) (hb : as.length = b) (hl : (zargs (.ref k :: as)).length ≤ nL ∧ zcs rest ≤ 8) :
    rv E (d + 1) mi pc L (as.reverse ++ .ref k :: rest) h = (rv E d a 0 (zent nL (.ref k :: as)) [] h).bind (zth E (d + 1) mi (pc + 3) L rest h) := by
  refine rv_call (as := .ref k :: as) (rest := rest) hp (by simp only [zkd]; rw [if_neg (by omega)]) hm ?_ hl
  subst hb
  unfold zas
  rw [if_pos (by simp)]
  rw [List.drop_left' (by simp), List.take_left' (by simp), List.reverse_reverse]
theorem rv_callv {i a b k : Nat} {as rest : List Value} {y : MethodName} {bt : ByteArray} {nL : Nat} {ret : Option FieldType} (hp : zP1 mi pc = some (.invokevirtual i, a, b, c)) (hk : a < 9000) (hc : ¬ c = 41) (hm : zM1 a = some (y, bt, nL, ret)) (hb : as.length = b) (hl : (zargs (.ref k :: as)).length ≤ nL ∧ zcs rest ≤ 8) :
    rv E (d + 1) mi pc L (as.reverse ++ .ref k :: rest) h = if zrc h k c = true then (rv E d a 0 (zent nL (.ref k :: as)) [] h).bind (zth E (d + 1) mi (pc + 3) L rest h) else none := by
  have hz : zkd (.invokevirtual i) a = 6 := by simp only [zkd]; rw [if_neg (by omega)]
  have e1 : zas E (.invokevirtual i) b c (as.reverse ++ .ref k :: rest) h = if zrc h k c = true then some (.ref k :: as, rest) else none := by
    subst hb
    unfold zas
    rw [if_pos (by simp)]
    rw [List.drop_left' (by simp), List.take_left' (by simp), List.reverse_reverse]
    simp only [if_neg hc, zrc]
    have e2 : ∀ o : Option zE, h[k]? = o → (match h[k]? with
        | some (.inr (ci, _)) => if (ci : Int) = c ∧ ci < 40 then some (Value.ref k :: as, rest) else none
        | _ => none) = if (match h[k]? with
          | some (.inr (ci, _)) => decide ((ci : Int) = c ∧ ci < 40)
          | _ => false) = true then some (Value.ref k :: as, rest) else none := by
      intro o ho
      rw [ho]
      cases o with
      | none => rfl
      | some e =>
        obtain ⟨t', xs⟩ | ⟨ci, vs⟩ := e
        · rfl
        · simp only [decide_eq_true_eq]
    exact e2 _ rfl
  by_cases hr : zrc h k c = true
  · rw [if_pos hr] at e1 ⊢
    exact rv_call hp hz hm e1 hl
  · rw [if_neg hr] at e1 ⊢
    apply Option.eq_none_iff_forall_ne_some.mpr
    intro r hr
    obtain ⟨n, hn⟩ := rv_iff.mp hr
    cases n with
    | zero => cases hn
    | succ n =>
      rw [zexec, hp] at hn
      simp only [hz, e1] at hn
      cases hn
theorem rv_callg {i a b k : Nat} {as rest : List Value} {y : MethodName} {bt : ByteArray} {nL : Nat} {ret : Option FieldType} (hp : zP1 mi pc = some (.invokevirtual i, a, b, 41)) (hk : a < 9000) (hs : zisS E k = true) (hm : zM1 a = some (y, bt, nL, ret)) (hb : as.length = b) (hl : (zargs (.ref k :: as)).length ≤ nL ∧ zcs rest ≤ 8) :
    rv E (d + 1) mi pc L (as.reverse ++ .ref k :: rest) h = (rv E d a 0 (zent nL (.ref k :: as)) [] h).bind (zth E (d + 1) mi (pc + 3) L rest h) := by
  refine rv_call (as := .ref k :: as) (rest := rest) hp (by simp only [zkd]; rw [if_neg (by omega)]) hm ?_ hl
  subst hb
  unfold zas
  rw [if_pos (by simp)]
  rw [List.drop_left' (by simp), List.take_left' (by simp), List.reverse_reverse]
  simp only [if_true, hs]
end RM
