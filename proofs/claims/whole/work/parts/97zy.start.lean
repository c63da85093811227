/-! The start: the memory behind the constructors. -/
section ST0
def zlk0 : List (Nat × Int) → Int → Int
  | [], _ => 0
  | (p, v) :: al, i => if i = (p : Int) then v else zlk0 al i
def zvi : Option Value → Int
  | some (.int x) => x.toInt
  | some (.ref r) => (r : Int) - 10000
  | some .null => -1
  | _ => 0
def zkv : Option zK → Int → Int
  | some (.inl (_, _, al)), i => zlk0 al i
  | some (.inr (_, vs)), i => zvi (vs[i.toNat]?)
  | none, _ => 0
def zh0 : List zK := zk_28.2.2.2
def mz : zMm := fun k i => zkv (zh0[k]?) i
theorem hp_mz : zeqH (zkh zh0) (hp mz) = true := by decide +kernel
def zrk : zK → Bool
  | .inl (_, _, al) => al.all (fun q => decide (-100000 ≤ q.2 ∧ q.2 < 100000))
  | .inr (_, vs) => vs.all (fun v => match v with | .ref r => decide (r < 100000) | _ => true)
theorem mz_all : zh0.all zrk = true := by decide +kernel
theorem zlk0_b {i : Int} : ∀ al : List (Nat × Int), al.all (fun q => decide (-100000 ≤ q.2 ∧ q.2 < 100000)) = true → -100000 ≤ zlk0 al i ∧ zlk0 al i < 100000
  | [], _ => by unfold zlk0; decide
  | (p, v) :: al, h => by
    rw [List.all_cons, Bool.and_eq_true, decide_eq_true_eq] at h
    unfold zlk0
    by_cases z : i = (p : Int)
    · rw [if_pos z]; exact h.1
    · rw [if_neg z]; exact zlk0_b al h.2
theorem zvi_b {o : Option Value} (h : ∀ v, o = some v → (match v with | .ref r => decide (r < 100000) | _ => true) = true) : wr (zvi o) = zvi o := by
  unfold zvi
  split
  · exact wr_toInt
  · rename_i r
    have := h (.ref r) rfl
    have h2 : @LT.lt Nat _ r 100000 := of_decide_eq_true this
    exact wr_of (by omega) (by omega)
  · rfl
  · rfl
theorem mz_rng : Rng mz := by
  intro k i
  show wr (zkv (zh0[k]?) i) = zkv (zh0[k]?) i
  have al := List.all_eq_true.mp mz_all
  cases hk : zh0[k]? with
  | none => rfl
  | some c =>
    have hc := al c (List.mem_of_getElem? hk)
    cases c with
    | inl q =>
      obtain ⟨t, n, l⟩ := q
      have b := zlk0_b (i := i) l hc
      exact wr_of (by show -2147483648 ≤ zlk0 l i; omega) (by show zlk0 l i < 2147483648; omega)
    | inr q =>
      obtain ⟨t, vs⟩ := q
      refine zvi_b (fun v hv => ?_)
      exact List.all_eq_true.mp hc v (List.mem_of_getElem? hv)

theorem h0_bes : ∀ c : Fin 100, ∀ s : Fin 4, mz 192 (4 * (c.val : Int) + (s.val : Int)) = nbr (c.val : Int) (s.val : Int) := by decide +kernel
theorem mz_0_9 : mz 0 9 = 0 := by decide +kernel
theorem mz_1_0 : mz 1 0 = 0 := by decide +kernel
theorem mz_1_1 : mz 1 1 = 0 := by decide +kernel
theorem mz_1_2 : mz 1 2 = 0 := by decide +kernel
theorem mz_4_3 : mz 4 3 = 0 := by decide +kernel
theorem mz_6_3 : mz 6 3 = 0 := by decide +kernel
theorem mz_8_3 : mz 8 3 = 0 := by decide +kernel
theorem mz_10_3 : mz 10 3 = 5 := by decide +kernel
theorem mz_12_3 : mz 12 3 = 0 := by decide +kernel
theorem mz_14_3 : mz 14 3 = 0 := by decide +kernel
theorem mz_16_3 : mz 16 3 = 0 := by decide +kernel
theorem mz_179_1 : mz 179 1 = 0 := by decide +kernel
theorem mz_202_2 : mz 202 2 = 1 := by decide +kernel
theorem mz_202_3 : mz 202 3 = -3 := by decide +kernel
theorem mz_226_8 : mz 226 8 = 0 := by decide +kernel
theorem mz_230_3 : mz 230 3 = 0 := by decide +kernel
theorem mz_232_3 : mz 232 3 = 0 := by decide +kernel
theorem mz_234_8 : mz 234 8 = 0 := by decide +kernel
theorem mz_246_2 : mz 246 2 = 0 := by decide +kernel
theorem mz_246_4 : mz 246 4 = 0 := by decide +kernel
theorem mz_246_7 : mz 246 7 = 0 := by decide +kernel
theorem mz_246_8 : mz 246 8 = -1 := by decide +kernel
theorem mz_246_12 : mz 246 12 = 0 := by decide +kernel
theorem mz_246_13 : mz 246 13 = -1 := by decide +kernel
theorem mz_246_14 : mz 246 14 = -1 := by decide +kernel
theorem mz_246_35 : mz 246 35 = 0 := by decide +kernel
theorem mz_247_0 : mz 247 0 = 0 := by decide +kernel
theorem mz_247_1 : mz 247 1 = 0 := by decide +kernel
theorem mz_247_2 : mz 247 2 = 0 := by decide +kernel
theorem mz_247_3 : mz 247 3 = 0 := by decide +kernel
theorem mz_247_4 : mz 247 4 = 0 := by decide +kernel
theorem mz_247_5 : mz 247 5 = 0 := by decide +kernel
theorem mz_247_6 : mz 247 6 = 0 := by decide +kernel
theorem mz_247_7 : mz 247 7 = 0 := by decide +kernel
theorem mz_247_8 : mz 247 8 = 0 := by decide +kernel
theorem mz_247_9 : mz 247 9 = 0 := by decide +kernel
theorem mz_por : ∀ p : Fin 5, ∀ f : Fin 3, mz 11 ((p.val : Int) * 3 + (f.val : Int)) = mz 247 (1282 + 3 * (p.val : Int) + (f.val : Int)) ∧ mz 247 (1282 + 3 * (p.val : Int) + (f.val : Int)) = (if f.val = 0 then 5 else if f.val = 1 then 7 else 0) := by decide +kernel
theorem mz_gnd : ∀ c : Fin 100, mz 2 (c.val : Int) = mz 247 (10 + (c.val : Int)) ∧ mz 247 (10 + (c.val : Int)) = 0 := by decide +kernel
theorem mz_host : ∀ s : Fin 4, (mz 235 (s.val : Int) = mz 261 (s.val : Int) ∧ mz 261 (s.val : Int) = -1) ∧ (mz 236 (s.val : Int) = mz 262 (s.val : Int) ∧ mz 262 (s.val : Int) = 0) ∧ (mz 242 (s.val : Int) = 2 ∧ mz 264 (s.val : Int) = 0) ∧ ∀ i : Fin 40, mz (238 + s.val) (i.val : Int) = mz 263 (40 * (s.val : Int) + (i.val : Int)) := by decide +kernel
theorem fin_v {n : Nat} {x : Int} (h0 : 0 ≤ x) (h1 : x < n) : ∃ k : Fin n, ((k.val : Nat) : Int) = x := ⟨⟨x.toNat, by omega⟩, by show (x.toNat : Int) = x; omega⟩
theorem Inv_mz : Inv mz := by
  refine ⟨mz_rng, ⟨?_, ?_, ?_, ?_, ?_, ?_, ?_, ?_, ?_, ?_, ?_⟩, ?_, ?_, ?_, ?_, ?_, ?_, ?_⟩
  · unfold cNum
    rw [mz_1_0, mz_4_3, mz_6_3, mz_1_2, mz_8_3, mz_12_3, mz_14_3, mz_1_1, mz_16_3, mz_10_3, mz_247_0, mz_247_1, mz_247_2, mz_247_3, mz_247_4, mz_247_5, mz_247_6, mz_247_7, mz_247_8]
    decide
  · intro c c0 c1
    obtain ⟨k, hk⟩ := fin_v (n := 100) c0 c1
    have q := mz_gnd k
    rw [hk] at q
    rw [q.1, q.2]
    decide
  · intro p p0 p1; rw [mz_247_1] at p1; omega
  · intro p p0 p1; rw [mz_247_1] at p1; omega
  · intro p p0 p1; rw [mz_247_2] at p1; omega
  · intro p p0 p1; rw [mz_247_4] at p1; omega
  · intro p p0 p1; rw [mz_247_5] at p1; omega
  · intro p p0 p1; rw [mz_247_6] at p1; omega
  · intro p p0 p1; rw [mz_247_8] at p1; omega
  · intro p p0 p1
    obtain ⟨k, hk⟩ := fin_v (n := 5) p0 p1
    have q0 := (mz_por k 0).2
    have q1 := (mz_por k 1).2
    have q2 := (mz_por k 2).2
    rw [hk] at q0 q1 q2
    refine ⟨fun f f0 f1 => ?_, ?_, ?_, ?_⟩
    · obtain ⟨j, hj⟩ := fin_v (n := 3) f0 f1
      have q := (mz_por k j).1
      rw [hk, hj] at q
      exact q
    · have e : mz 247 (1282 + 3 * p + 0) = 5 := q0
      rw [e]; decide
    · have e : mz 247 (1282 + 3 * p + 1) = 7 := q1
      rw [e]; decide
    · have e : mz 247 (1282 + 3 * p + 2) = 0 := q2
      rw [e]; decide
  · refine ⟨fun v v0 v1 => ?_, fun v1 v2 g1 g2 g3 => ?_⟩
    · rw [mz_247_3] at v1; omega
    · rw [mz_247_3] at g3; omega
  · unfold Kept
    rw [mz_0_9, mz_246_2]
    exact ⟨rfl, Or.inl rfl⟩
  · exact law_stale mz_202_3 mz_202_2
  · unfold RefOK
    rw [mz_246_13, mz_246_14, mz_246_12]
    exact ⟨rfl, rfl, Or.inl rfl⟩
  · intro c s c0 c1 s0 s1
    obtain ⟨k, hk⟩ := fin_v (n := 100) c0 c1
    obtain ⟨j, hj⟩ := fin_v (n := 4) s0 s1
    have q := h0_bes k j
    rw [hk, hj] at q
    exact q
  · unfold Tape
    rw [mz_179_1, mz_246_4]
    exact ⟨rfl, Int.le_refl _, by decide, fun i i0 i1 => by omega⟩
  · unfold Rows
    rw [mz_230_3, mz_246_7, mz_226_8, mz_246_8]
    exact ⟨⟨rfl, Int.le_refl _, by decide⟩, Or.inl ⟨rfl, rfl, rfl⟩, fun i i0 i1 => by omega, fun i i0 i1 => by omega⟩
  · unfold Host
    rw [mz_234_8, mz_246_35]
    refine ⟨fun s s0 s1 => ?_, ⟨rfl, Int.le_refl _, by decide⟩, fun i i0 i1 => by omega⟩
    obtain ⟨k, hk⟩ := fin_v (n := 4) s0 s1
    have q := mz_host k
    have hn : s.toNat = k.val := by omega
    rw [hk] at q
    rw [hn, q.1.1, q.1.2, q.2.1.1, q.2.1.2, q.2.2.1.1, q.2.2.1.2]
    refine ⟨by decide, by decide, fun i i0 i1 => ?_, Or.inl ⟨rfl, rfl⟩⟩
    obtain ⟨j, hj⟩ := fin_v (n := 40) i0 i1
    have z := q.2.2.2 j
    rw [hj] at z
    exact z
theorem zslots_hp {m m' : zMm} : zslots (hp m) = zslots (hp m') := by
  unfold zslots
  refine congrArg List.sum ?_
  refine List.ext_getElem? (fun i => ?_)
  rw [List.getElem?_map, List.getElem?_map]
  unfold hp
  rw [List.getElem?_mapIdx, List.getElem?_mapIdx]
  cases zshape[i]? with
  | none => rfl
  | some s =>
    obtain ⟨a, b, c, tm⟩ := s
    show some _ = some _
    refine congrArg some ?_
    match a with
    | 0 => show ((List.range c).map _).length = ((List.range c).map _).length; rw [List.length_map, List.length_map]
    | 1 => show (tm.mapIdx _).length = (tm.mapIdx _).length; rw [List.length_mapIdx, List.length_mapIdx]
    | 2 => show ((List.range c).map _).length = ((List.range c).map _).length; rw [List.length_map, List.length_map]
    | n + 3 => show (tm.mapIdx _).length = (tm.mapIdx _).length; rw [List.length_mapIdx, List.length_mapIdx]
theorem zslots_0 : zslots (zkh zh0) = 30013 := by decide +kernel
end ST0
