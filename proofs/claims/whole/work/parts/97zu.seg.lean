/-! The constructors: runs by pieces, checked by the kernel. -/
section SG2
abbrev zSt : Type := Nat × List Value × List Value × zH
/-- one instruction of a frame; a call runs to its end (F instructions at most) -/
def zst1 (E : zS) (F d mi : Nat) (s : zSt) : Option zSt :=
  match zP1 mi s.1 with
  | none => none
  | some (ins, a, b, c) =>
    match zkd ins a with
    | 0 => (zstk ins s.2.2.1).map (fun st' => (s.1 + zlen ins, s.2.1, st', s.2.2.2))
    | 1 => (zloc ins s.2.1 s.2.2.1).map (fun q => (s.1 + zlen ins, q.1, q.2, s.2.2.2))
    | 2 => match zbr E ins s.2.2.1 with
      | some (bt, off, st') => (match zjmp s.1 off with
        | some pc' => some (if bt = true then pc' else s.1 + 3, s.2.1, st', s.2.2.2)
        | none => none)
      | none => none
    | 4 => (zhp E ins a b c s.2.1 s.2.2.1 s.2.2.2).map (fun q => (s.1 + zlen ins, s.2.1, q.1, q.2))
    | 6 => match d, zas E ins b c s.2.2.1 s.2.2.2, zM1 a with
      | d' + 1, some (as, rest), some (_, _, maxL, _) =>
        if (zargs as).length ≤ maxL ∧ zcs rest ≤ 8 then
          match zexec zP1 zM1 E F d' a 0 (zent maxL as) [] s.2.2.2 with
          | some (r, h') => if h'.length = s.2.2.2.length ∨ ((s.2.1 ++ rest).all (zfree s.2.2.2.length h'.length)) = true then some (s.1 + 3, s.2.1, r.toList ++ rest, h') else none
          | none => none
        else none
      | _, _, _ => none
    | _ => none
def zseg (E : zS) (F d mi : Nat) : Nat → zSt → Option zSt
  | 0, s => some s
  | n + 1, s => match zst1 E F d mi s with
    | some s' => zseg E F d mi n s'
    | none => none
noncomputable def rvS (E : zS) (d mi : Nat) (s : zSt) : Option (Option Value × zH) := rv E d mi s.1 s.2.1 s.2.2.1 s.2.2.2
variable {ys : List Int32} {v0 : Value}
theorem zst1_ok {F d mi : Nat} {s s' : zSt} (h : zst1 zEc F d mi s = some s') : rvS (zE0 ys v0) d mi s = rvS (zE0 ys v0) d mi s' := by
  obtain ⟨pc, L, st, hp⟩ := s
  unfold zst1 at h
  dsimp only at h
  cases hP : zP1 mi pc with
  | none => rw [hP] at h; cases h
  | some q =>
    obtain ⟨ins, a, b, c⟩ := q
    rw [hP] at h
    dsimp only at h
    unfold rvS
    dsimp only
    split at h
    · rename_i hk
      rw [Option.map_eq_some_iff] at h
      obtain ⟨st', h1, h2⟩ := h
      subst h2
      exact rv_stk hP hk h1
    · rename_i hk
      rw [Option.map_eq_some_iff] at h
      obtain ⟨⟨L', st'⟩, h1, h2⟩ := h
      subst h2
      exact rv_loc hP hk h1
    · rename_i hk
      split at h
      · rename_i bt off st' hb
        split at h
        · rename_i pc' hj
          cases h
          have := rv_br (E := zE0 ys v0) (d := d) (L := L) (h := hp) hP hk (show zbr (zE0 ys v0) ins st = some (bt, off, st') from hb) hj
          rw [this]
          cases bt <;> rfl
        · cases h
      · cases h
    · rename_i hk
      rw [Option.map_eq_some_iff] at h
      obtain ⟨⟨st', h'⟩, h1, h2⟩ := h
      subst h2
      rw [rv_hpm hP hk, zhp_mono h1]
      rfl
    · rename_i hk
      split at h
      · rename_i d' as rest nm bt maxL ret ha hm
        split at h
        · rename_i hc
          split at h
          · rename_i r h' hx
            split at h
            · rename_i hc2
              cases h
              rw [rv_call (E := zE0 ys v0) hP hk hm (show zas (zE0 ys v0) ins b c st hp = some (as, rest) from ha) hc, rv_iff.mpr ⟨F, zx_mono _ _ _ _ _ _ _ _ hx⟩]
              exact if_pos hc2
            · cases h
          · cases h
        · cases h
      · cases h
    · cases h
theorem zseg_ok {F d mi : Nat} : ∀ (n : Nat) (s s' : zSt), zseg zEc F d mi n s = some s' → rvS (zE0 ys v0) d mi s = rvS (zE0 ys v0) d mi s' := by
  intro n
  induction n with
  | zero => intro s s' h; cases h; rfl
  | succ n ih =>
    intro s s' h
    rw [zseg] at h
    split at h
    · rename_i s1 h1
      exact (zst1_ok h1).trans (ih s1 s' h)
    · cases h
/-- a cell in short: an array with its numbers that aren't 0, or values -/
abbrev zK : Type := (Nat × Nat × List (Nat × Int)) ⊕ (Nat × List Value)
def zbl : Nat → Nat → List (Nat × Int) → List Int32
  | 0, _, _ => []
  | n + 1, j, [] => 0 :: zbl n (j + 1) []
  | n + 1, j, (p, v) :: al => if p = j then iI v :: zbl n (j + 1) al else 0 :: zbl n (j + 1) ((p, v) :: al)
def zkd1 : zK → zE
  | .inl (t, n, al) => .inl (t, zbl n 0 al)
  | .inr q => .inr q
def zkh (k : List zK) : zH := k.map zkd1
def zn32 (x : Int32) : Nat := x.toBitVec.toNat
def zeqL : List Int32 → List Int32 → Bool
  | [], [] => true
  | x :: xs, y :: ys => Nat.beq (zn32 x) (zn32 y) && zeqL xs ys
  | _, _ => false
theorem zn32_inj {x y : Int32} (h : zn32 x = zn32 y) : x = y := by
  have : x.toBitVec = y.toBitVec := BitVec.eq_of_toNat_eq h
  exact Int32.toBitVec_inj.mp this
theorem zeqL_ok : ∀ (xs ys : List Int32), zeqL xs ys = true → xs = ys
  | [], [], _ => rfl
  | x :: xs, y :: ys, h => by
    unfold zeqL at h
    rw [Bool.and_eq_true] at h
    rw [zn32_inj (Nat.eq_of_beq_eq_true h.1), zeqL_ok xs ys h.2]
  | [], _ :: _, h => by cases h
  | _ :: _, [], h => by cases h
def zeqV : Value → Value → Bool
  | .int x, .int y => Nat.beq (zn32 x) (zn32 y)
  | .ref a, .ref b => Nat.beq a b
  | .null, .null => true
  | .retAddr a, .retAddr b => Nat.beq a b
  | _, _ => false
theorem zeqV_ok {v w : Value} (h : zeqV v w = true) : v = w := by
  unfold zeqV at h
  split at h
  · rw [zn32_inj (Nat.eq_of_beq_eq_true h)]
  · rw [Nat.eq_of_beq_eq_true h]
  · rfl
  · rw [Nat.eq_of_beq_eq_true h]
  · cases h
def zeqVs : List Value → List Value → Bool
  | [], [] => true
  | x :: xs, y :: ys => zeqV x y && zeqVs xs ys
  | _, _ => false
theorem zeqVs_ok : ∀ (xs ys : List Value), zeqVs xs ys = true → xs = ys
  | [], [], _ => rfl
  | x :: xs, y :: ys, h => by
    unfold zeqVs at h
    rw [Bool.and_eq_true] at h
    rw [zeqV_ok h.1, zeqVs_ok xs ys h.2]
  | [], _ :: _, h => by cases h
  | _ :: _, [], h => by cases h
def zeqE : zE → zE → Bool
  | .inl (t, xs), .inl (t', xs') => Nat.beq t t' && zeqL xs xs'
  | .inr (t, xs), .inr (t', xs') => Nat.beq t t' && zeqVs xs xs'
  | _, _ => false
theorem zeqE_ok {a b : zE} (h : zeqE a b = true) : a = b := by
  unfold zeqE at h
  split at h
  · rw [Bool.and_eq_true] at h
    rw [Nat.eq_of_beq_eq_true h.1, zeqL_ok _ _ h.2]
  · rw [Bool.and_eq_true] at h
    rw [Nat.eq_of_beq_eq_true h.1, zeqVs_ok _ _ h.2]
  · cases h
def zeqH : zH → zH → Bool
  | [], [] => true
  | x :: xs, y :: ys => zeqE x y && zeqH xs ys
  | _, _ => false
theorem zeqH_ok : ∀ (xs ys : zH), zeqH xs ys = true → xs = ys
  | [], [], _ => rfl
  | x :: xs, y :: ys, h => by
    unfold zeqH at h
    rw [Bool.and_eq_true] at h
    rw [zeqE_ok h.1, zeqH_ok xs ys h.2]
  | [], _ :: _, h => by cases h
  | _ :: _, [], h => by cases h
abbrev zKs : Type := Nat × List Value × List Value × List zK
def zks (k : zKs) : zSt := (k.1, k.2.1, k.2.2.1, zkh k.2.2.2)
def zchk (F d mi n : Nat) (k k' : zKs) : Bool :=
  match zseg zEc F d mi n (zks k) with
  | some s => Nat.beq s.1 k'.1 && (zeqVs s.2.1 k'.2.1 && (zeqVs s.2.2.1 k'.2.2.1 && zeqH s.2.2.2 (zkh k'.2.2.2)))
  | none => false
theorem zchk_ok {F d mi n : Nat} {k k' : zKs} (h : zchk F d mi n k k' = true) : rvS (zE0 ys v0) d mi (zks k) = rvS (zE0 ys v0) d mi (zks k') := by
  unfold zchk at h
  split at h
  · rename_i s hs
    rw [Bool.and_eq_true, Bool.and_eq_true, Bool.and_eq_true] at h
    rw [zseg_ok n _ _ hs]
    have : s = zks k' := by
      obtain ⟨a, b, c, e⟩ := s
      unfold zks
      rw [← zeqH_ok _ _ h.2.2.2, ← zeqVs_ok _ _ h.2.2.1, ← zeqVs_ok _ _ h.2.1, ← Nat.eq_of_beq_eq_true h.1]
    rw [this]
  · cases h
end SG2
