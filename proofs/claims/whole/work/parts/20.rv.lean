/-! The value of a run, and its equations. -/
def zP1 : zP := zPof zprog zpool
def zM1 : zM := zMof zprog
theorem zp_l {mi pc : Nat} {ins : Instr} {q : zMe} (hq : zprog[mi]? = some q) (h : zfd q.2.2.2 pc = some (.inl ins)) : zP1 mi pc = some (ins, 0, 0, 0) := by
  unfold zP1 zPof
  rw [hq]
  dsimp only
  rw [h]
theorem zp_r {mi pc : Nat} {ins : Instr} {a b : Nat} {c : Int} {q : zMe} (hq : zprog[mi]? = some q) (h : (match zfd q.2.2.2 pc with | some (.inr j) => (zpg zpool j).map (fun e => e.2.1) | _ => none) = some (ins, a, b, c)) : zP1 mi pc = some (ins, a, b, c) := by
  unfold zP1 zPof
  rw [hq]
  dsimp only
  cases hz : zfd q.2.2.2 pc with
  | none => rw [hz] at h; cases h
  | some x =>
    rw [hz] at h
    cases x with
    | inl i => cases h
    | inr j => exact h
theorem zM_of {mi : Nat} {q : zMe} (hq : zprog[mi]? = some q) : zM1 mi = some q.2.1 := by
  unfold zM1 zMof
  rw [hq]
  rfl
theorem zx_up {P : zP} {M : zM} {E : zS} : ∀ (n d mi pc : Nat) (L st : List Value) (h : zH) (r : Option Value × zH), zexec P M E n d mi pc L st h = some r → zexec P M E (n + 1) d mi pc L st h = some r := by
  intro n
  induction n with
  | zero => intro d mi pc L st h r hs; cases hs
  | succ n ih =>
    intro d mi pc L st h r hs
    rw [zexec] at hs ⊢
    split at hs
    · cases hs
    · split at hs
      · split at hs
        · exact ih _ _ _ _ _ _ _ hs
        · cases hs
      · split at hs
        · exact ih _ _ _ _ _ _ _ hs
        · cases hs
      · split at hs
        · split at hs
          · exact ih _ _ _ _ _ _ _ hs
          · cases hs
        · cases hs
      · split at hs
        · split at hs
          · exact ih _ _ _ _ _ _ _ hs
          · cases hs
        · cases hs
      · split at hs
        · exact ih _ _ _ _ _ _ _ hs
        · cases hs
      · exact hs
      · split at hs
        · split at hs
          · rename_i hc
            split at hs
            · rename_i r1 h1 hcall
              have hcall' := ih _ _ _ _ _ _ _ hcall
              split at hs
              · rename_i hc2
                have hs' := ih _ _ _ _ _ _ _ hs
                simp only [hc, hcall', hc2, and_self, if_true]
                exact hs'
              · cases hs
            · cases hs
          · cases hs
        · cases hs
theorem zx_le {P : zP} {M : zM} {E : zS} {n m d mi pc : Nat} {L st : List Value} {h : zH} {r : Option Value × zH} (hle : n ≤ m) (hs : zexec P M E n d mi pc L st h = some r) : zexec P M E m d mi pc L st h = some r := by
  induction hle with
  | refl => exact hs
  | step _ ih => exact zx_up _ _ _ _ _ _ _ _ ih
theorem zx_det {P : zP} {M : zM} {E : zS} {n m d mi pc : Nat} {L st : List Value} {h : zH} {r r' : Option Value × zH} (hs : zexec P M E n d mi pc L st h = some r) (hs' : zexec P M E m d mi pc L st h = some r') : r = r' := by
  have h1 := zx_le (Nat.le_max_left n m) hs
  have h2 := zx_le (Nat.le_max_right n m) hs'
  rw [h1] at h2
  exact Option.some.inj h2
/-- the value of a run -/
noncomputable def rv (E : zS) (d mi pc : Nat) (L st : List Value) (h : zH) : Option (Option Value × zH) :=
  match Classical.propDecidable (∃ r n, zexec zP1 zM1 E n d mi pc L st h = some r) with
  | isTrue hh => some hh.choose
  | isFalse _ => none
section RV
variable {E : zS} {d mi pc a b : Nat} {c : Int} {L st st' : List Value} {h h' : zH} {ins : Instr} {r : Option Value × zH}
theorem rv_iff : rv E d mi pc L st h = some r ↔ ∃ n, zexec zP1 zM1 E n d mi pc L st h = some r := by
  unfold rv
  split
  · rename_i hh _
    obtain ⟨n, hn⟩ := hh.choose_spec
    constructor
    · intro he
      cases he
      exact ⟨n, hn⟩
    · rintro ⟨m, hm⟩
      rw [zx_det hn hm]
  · rename_i hh _
    constructor
    · intro he; cases he
    · rintro ⟨n, hn⟩
      exact absurd ⟨r, n, hn⟩ hh
theorem rv_ext {d' mi' pc' : Nat} {L' st' : List Value} {h' : zH} (hh : ∀ r, (∃ n, zexec zP1 zM1 E n d mi pc L st h = some r) ↔ (∃ n, zexec zP1 zM1 E n d' mi' pc' L' st' h' = some r)) : rv E d mi pc L st h = rv E d' mi' pc' L' st' h' := by
  apply Option.ext
  intro r
  show rv E d mi pc L st h = some r ↔ rv E d' mi' pc' L' st' h' = some r
  rw [rv_iff, rv_iff, hh]
theorem rv_next {d' mi' pc' : Nat} {L' st' : List Value} {h' : zH} (hh : ∀ n, zexec zP1 zM1 E (n + 1) d mi pc L st h = zexec zP1 zM1 E n d' mi' pc' L' st' h') : rv E d mi pc L st h = rv E d' mi' pc' L' st' h' := by
  apply rv_ext
  intro r
  constructor
  · rintro ⟨n, hn⟩
    cases n with
    | zero => cases hn
    | succ n => exact ⟨n, by rw [← hh]; exact hn⟩
  · rintro ⟨n, hn⟩
    exact ⟨n + 1, by rw [hh]; exact hn⟩
theorem rv_stk (hp : zP1 mi pc = some (ins, a, b, c)) (hk : zkd ins a = 0) (hs : zstk ins st = some st') : rv E d mi pc L st h = rv E d mi (pc + zlen ins) L st' h :=
  rv_next fun n => by rw [zexec, hp]; simp only [hk, hs]
theorem rv_loc {L' : List Value} (hp : zP1 mi pc = some (ins, a, b, c)) (hk : zkd ins a = 1) (hs : zloc ins L st = some (L', st')) : rv E d mi pc L st h = rv E d mi (pc + zlen ins) L' st' h :=
  rv_next fun n => by rw [zexec, hp]; simp only [hk, hs]
theorem rv_br {bt : Bool} {off : Int} {t : Nat} (hp : zP1 mi pc = some (ins, a, b, c)) (hk : zkd ins a = 2) (hs : zbr E ins st = some (bt, off, st')) (hj : zjmp pc off = some t) : rv E d mi pc L st h = if bt = true then rv E d mi t L st' h else rv E d mi (pc + 3) L st' h := by
  have : rv E d mi pc L st h = rv E d mi (if bt = true then t else pc + 3) L st' h := rv_next fun n => by rw [zexec, hp]; simp only [hk, hs, hj]
  rw [this]
  split <;> rfl
theorem rv_sw {off : Int} {t : Nat} (hp : zP1 mi pc = some (ins, a, b, c)) (hk : zkd ins a = 3) (hs : zsw ins st = some (off, st')) (hj : zjmp pc off = some t) : rv E d mi pc L st h = rv E d mi t L st' h :=
  rv_next fun n => by rw [zexec, hp]; simp only [hk, hs, hj]
theorem rv_icmp {cd : ClassFile.Cond} {off : Int} {t : Nat} {x y : Int32} {p : Prop} [Decidable p] (hp : zP1 mi pc = some (.if_icmp cd off, a, b, c)) (hj : zjmp pc off = some t) (hc : zcnd cd x y = decide p) : rv E d mi pc L (.int y :: .int x :: st) h = if p then rv E d mi t L st h else rv E d mi (pc + 3) L st h := by
  rw [rv_br hp rfl rfl hj, hc]
  by_cases hq : p <;> simp [hq]
theorem rv_ifc {cd : ClassFile.Cond} {off : Int} {t : Nat} {x : Int32} {p : Prop} [Decidable p] (hp : zP1 mi pc = some (.ifCond cd off, a, b, c)) (hj : zjmp pc off = some t) (hc : zcnd cd x 0 = decide p) : rv E d mi pc L (.int x :: st) h = if p then rv E d mi t L st h else rv E d mi (pc + 3) L st h := by
  rw [rv_br hp rfl rfl hj, hc]
  by_cases hq : p <;> simp [hq]
theorem rv_goto {off : Int} {t : Nat} (hp : zP1 mi pc = some (.goto off, a, b, c)) (hj : zjmp pc off = some t) : rv E d mi pc L st h = rv E d mi t L st h := by
  rw [rv_br hp rfl rfl hj]
  rfl
theorem rv_hpm (hp : zP1 mi pc = some (ins, a, b, c)) (hk : zkd ins a = 4) : rv E d mi pc L st h = (zhp E ins a b c L st h).bind (fun q => rv E d mi (pc + zlen ins) L q.1 q.2) := by
  cases hz : zhp E ins a b c L st h with
  | some q =>
    obtain ⟨st', h'⟩ := q
    exact rv_next fun n => by rw [zexec, hp]; simp only [hk, hz]
  | none =>
    show rv E d mi pc L st h = none
    apply Option.eq_none_iff_forall_ne_some.mpr
    intro r hr
    obtain ⟨n, hn⟩ := rv_iff.mp hr
    cases n with
    | zero => cases hn
    | succ n =>
      rw [zexec, hp] at hn
      simp only [hk, hz] at hn
      cases hn
theorem rv_ret {y : MethodName} {bt : ByteArray} {nL : Nat} {ret : Option FieldType} (hp : zP1 mi pc = some (ins, a, b, c)) (hk : zkd ins a = 5) (hm : zM1 mi = some (y, bt, nL, ret)) : rv E d mi pc L st h = zrt ret ins st h := by
  apply Option.ext
  intro r
  show rv E d mi pc L st h = some r ↔ zrt ret ins st h = some r
  rw [rv_iff]
  constructor
  · rintro ⟨n, hn⟩
    cases n with
    | zero => cases hn
    | succ n =>
      rw [zexec, hp] at hn
      simp only [hk, hm] at hn
      exact hn
  · intro hn
    exact ⟨1, by rw [zexec, hp]; simp only [hk, hm]; exact hn⟩
theorem rv_call {as rest : List Value} {y : MethodName} {bt : ByteArray} {nL : Nat} {ret : Option FieldType} (hp : zP1 mi pc = some (ins, a, b, c)) (hk : zkd ins a = 6) (hm : zM1 a = some (y, bt, nL, ret)) (has : zas E ins b c st h = some (as, rest)) (hl : (zargs as).length ≤ nL ∧ zcs rest ≤ 8) :
    rv E (d + 1) mi pc L st h = (rv E d a 0 (zent nL as) [] h).bind (fun q => if q.2.length = h.length ∨ ((L ++ rest).all (zfree h.length q.2.length)) = true then rv E (d + 1) mi (pc + 3) L (q.1.toList ++ rest) q.2 else none) := by
  apply Option.ext
  intro r
  show rv E (d + 1) mi pc L st h = some r ↔ _ = some r
  rw [rv_iff, Option.bind_eq_some_iff]
  constructor
  · rintro ⟨n, hn⟩
    cases n with
    | zero => cases hn
    | succ n =>
      rw [zexec, hp] at hn
      simp only [hk, hm, has, hl, and_self, if_true] at hn
      split at hn
      · rename_i r1 h1 hcall
        split at hn
        · rename_i hc
          refine ⟨(r1, h1), rv_iff.mpr ⟨n, hcall⟩, ?_⟩
          rw [if_pos hc]
          exact rv_iff.mpr ⟨n, hn⟩
        · cases hn
      · cases hn
  · rintro ⟨⟨r1, h1⟩, hcall, hn⟩
    obtain ⟨n1, hcall⟩ := rv_iff.mp hcall
    split at hn
    · rename_i hc
      obtain ⟨n2, hn⟩ := rv_iff.mp hn
      refine ⟨max n1 n2 + 1, ?_⟩
      rw [zexec, hp]
      simp only [hk, hm, has, hl, and_self, if_true]
      rw [zx_le (Nat.le_max_left n1 n2) hcall]
      dsimp only
      rw [if_pos hc]
      exact zx_le (Nat.le_max_right n1 n2) hn
    · cases hn
end RV
