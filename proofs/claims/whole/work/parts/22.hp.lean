/-! The heap behind the two constructors: shapes, and what changes. By program. -/
def zwr (x : Int32) : Value := if x < 0 then .null else .ref (10000 + x.toNatClampNeg)
def zfill (f : Nat → Int32) (a : List Int32) : Nat × Nat × List (Option Value) → zE
  | (0, t, _) => .inl (t, a)
  | (1, c, tm) => .inr (c, tm.mapIdx (fun j o => o.getD (.int (f j))))
  | (2, _, _) => .inr (51, a.map zwr)
  | (_, c, tm) => .inr (c, tm.mapIdx (fun j o => if j = 8 then zwr (f 8) else o.getD (.int (f j))))
def zsh_0 : List (Nat × Nat × List (Option Value)) := [(1, 10, [some (.ref 1), some (.ref 90), some (.ref 179), some (.ref 191), some (.ref 202), some (.ref 206), some (.ref 208), some (.ref 226), some (.ref 234), none]), (1, 9, [none, none, none, some (.ref 2), some (.ref 3), some (.ref 4), some (.ref 6), some (.ref 8), some (.ref 10), some (.ref 12), some (.ref 14), some (.ref 16)]), (0, 0, []), (1, 52, [some (.ref 18), some (.ref 24), some (.ref 30), some (.ref 36), some (.ref 42), some (.ref 48), some (.ref 54), some (.ref 60), some (.ref 66), some (.ref 72), some (.ref 78), some (.ref 84)]), (1, 7, [some (.int (nI 18)), some (.ref 5), some (.int (nI 16)), none]), (0, 0, []), (1, 7, [some (.int (nI 2)), some (.ref 7), some (.int (nI 6)), none]), (0, 0, []), (1, 7, [some (.int (nI 6)), some (.ref 9), some (.int (nI 24)), none]), (0, 0, []), (1, 7, [some (.int (nI 3)), some (.ref 11), some (.int (nI 5)), none]), (0, 0, []), (1, 7, [some (.int (nI 7)), some (.ref 13), some (.int (nI 16)), none]), (0, 0, []), (1, 7, [some (.int (nI 3)), some (.ref 15), some (.int (nI 8)), none]), (0, 0, []), (1, 7, [some (.int (nI 3)), some (.ref 17), some (.int (nI 16)), none]), (0, 0, []), (1, 8, [none, none, none, none, none, some (.ref 19), some (.ref 20), some (.ref 21), some (.ref 22), some (.ref 23)]), (0, 0, []), (0, 0, []), (0, 0, []), (0, 0, []), (0, 0, []), (1, 8, [none, none, none, none, none, some (.ref 25), some (.ref 26), some (.ref 27), some (.ref 28), some (.ref 29)]), (0, 0, []), (0, 0, []), (0, 0, []), (0, 0, []), (0, 0, []), (1, 8, [none, none, none, none, none, some (.ref 31), some (.ref 32), some (.ref 33), some (.ref 34), some (.ref 35)]), (0, 0, []), (0, 0, []), (0, 0, []), (0, 0, []), (0, 0, []), (1, 8, [none, none, none, none, none, some (.ref 37), some (.ref 38), some (.ref 39), some (.ref 40), some (.ref 41)]), (0, 0, []), (0, 0, []), (0, 0, [])]
def zsh_1 : List (Nat × Nat × List (Option Value)) := [(0, 0, []), (0, 0, []), (1, 8, [none, none, none, none, none, some (.ref 43), some (.ref 44), some (.ref 45), some (.ref 46), some (.ref 47)]), (0, 0, []), (0, 0, []), (0, 0, []), (0, 0, []), (0, 0, []), (1, 8, [none, none, none, none, none, some (.ref 49), some (.ref 50), some (.ref 51), some (.ref 52), some (.ref 53)]), (0, 0, []), (0, 0, []), (0, 0, []), (0, 0, []), (0, 0, []), (1, 8, [none, none, none, none, none, some (.ref 55), some (.ref 56), some (.ref 57), some (.ref 58), some (.ref 59)]), (0, 0, []), (0, 0, []), (0, 0, []), (0, 0, []), (0, 0, []), (1, 8, [none, none, none, none, none, some (.ref 61), some (.ref 62), some (.ref 63), some (.ref 64), some (.ref 65)]), (0, 0, []), (0, 0, []), (0, 0, []), (0, 0, []), (0, 0, []), (1, 8, [none, none, none, none, none, some (.ref 67), some (.ref 68), some (.ref 69), some (.ref 70), some (.ref 71)]), (0, 0, []), (0, 0, []), (0, 0, []), (0, 0, []), (0, 0, []), (1, 8, [none, none, none, none, none, some (.ref 73), some (.ref 74), some (.ref 75), some (.ref 76), some (.ref 77)]), (0, 0, []), (0, 0, []), (0, 0, []), (0, 0, []), (0, 0, []), (1, 8, [none, none, none, none, none, some (.ref 79), some (.ref 80), some (.ref 81), some (.ref 82), some (.ref 83)]), (0, 0, [])]
def zsh_2 : List (Nat × Nat × List (Option Value)) := [(0, 0, []), (0, 0, []), (0, 0, []), (0, 0, []), (1, 8, [none, none, none, none, none, some (.ref 85), some (.ref 86), some (.ref 87), some (.ref 88), some (.ref 89)]), (0, 0, []), (0, 0, []), (0, 0, []), (0, 0, []), (0, 0, []), (1, 9, [none, none, none, some (.ref 91), some (.ref 92), some (.ref 93), some (.ref 95), some (.ref 97), some (.ref 99), some (.ref 101), some (.ref 103), some (.ref 105)]), (0, 0, []), (1, 52, [some (.ref 107), some (.ref 113), some (.ref 119), some (.ref 125), some (.ref 131), some (.ref 137), some (.ref 143), some (.ref 149), some (.ref 155), some (.ref 161), some (.ref 167), some (.ref 173)]), (1, 7, [some (.int (nI 18)), some (.ref 94), some (.int (nI 16)), none]), (0, 0, []), (1, 7, [some (.int (nI 2)), some (.ref 96), some (.int (nI 6)), none]), (0, 0, []), (1, 7, [some (.int (nI 6)), some (.ref 98), some (.int (nI 24)), none]), (0, 0, []), (1, 7, [some (.int (nI 3)), some (.ref 100), some (.int (nI 5)), none]), (0, 0, []), (1, 7, [some (.int (nI 7)), some (.ref 102), some (.int (nI 16)), none]), (0, 0, []), (1, 7, [some (.int (nI 3)), some (.ref 104), some (.int (nI 8)), none]), (0, 0, []), (1, 7, [some (.int (nI 3)), some (.ref 106), some (.int (nI 16)), none]), (0, 0, []), (1, 8, [none, none, none, none, none, some (.ref 108), some (.ref 109), some (.ref 110), some (.ref 111), some (.ref 112)]), (0, 0, []), (0, 0, []), (0, 0, []), (0, 0, []), (0, 0, []), (1, 8, [none, none, none, none, none, some (.ref 114), some (.ref 115), some (.ref 116), some (.ref 117), some (.ref 118)]), (0, 0, []), (0, 0, []), (0, 0, []), (0, 0, []), (0, 0, []), (1, 8, [none, none, none, none, none, some (.ref 120), some (.ref 121), some (.ref 122), some (.ref 123), some (.ref 124)])]
def zsh_3 : List (Nat × Nat × List (Option Value)) := [(0, 0, []), (0, 0, []), (0, 0, []), (0, 0, []), (0, 0, []), (1, 8, [none, none, none, none, none, some (.ref 126), some (.ref 127), some (.ref 128), some (.ref 129), some (.ref 130)]), (0, 0, []), (0, 0, []), (0, 0, []), (0, 0, []), (0, 0, []), (1, 8, [none, none, none, none, none, some (.ref 132), some (.ref 133), some (.ref 134), some (.ref 135), some (.ref 136)]), (0, 0, []), (0, 0, []), (0, 0, []), (0, 0, []), (0, 0, []), (1, 8, [none, none, none, none, none, some (.ref 138), some (.ref 139), some (.ref 140), some (.ref 141), some (.ref 142)]), (0, 0, []), (0, 0, []), (0, 0, []), (0, 0, []), (0, 0, []), (1, 8, [none, none, none, none, none, some (.ref 144), some (.ref 145), some (.ref 146), some (.ref 147), some (.ref 148)]), (0, 0, []), (0, 0, []), (0, 0, []), (0, 0, []), (0, 0, []), (1, 8, [none, none, none, none, none, some (.ref 150), some (.ref 151), some (.ref 152), some (.ref 153), some (.ref 154)]), (0, 0, []), (0, 0, []), (0, 0, []), (0, 0, []), (0, 0, []), (1, 8, [none, none, none, none, none, some (.ref 156), some (.ref 157), some (.ref 158), some (.ref 159), some (.ref 160)]), (0, 0, []), (0, 0, []), (0, 0, []), (0, 0, [])]
def zsh_4 : List (Nat × Nat × List (Option Value)) := [(0, 0, []), (1, 8, [none, none, none, none, none, some (.ref 162), some (.ref 163), some (.ref 164), some (.ref 165), some (.ref 166)]), (0, 0, []), (0, 0, []), (0, 0, []), (0, 0, []), (0, 0, []), (1, 8, [none, none, none, none, none, some (.ref 168), some (.ref 169), some (.ref 170), some (.ref 171), some (.ref 172)]), (0, 0, []), (0, 0, []), (0, 0, []), (0, 0, []), (0, 0, []), (1, 8, [none, none, none, none, none, some (.ref 174), some (.ref 175), some (.ref 176), some (.ref 177), some (.ref 178)]), (0, 0, []), (0, 0, []), (0, 0, []), (0, 0, []), (0, 0, []), (3, 4, [some (.ref 180), none, some (.ref 181), some (.ref 182), some (.ref 183), some (.ref 184), none, none, none, some (.ref 185)]), (0, 1, []), (1, 51, [some (.ref 10000), some (.ref 10001), some (.ref 10002), some (.ref 10003), some (.ref 10004), some (.ref 10005), some (.ref 10006), some (.ref 10007), some (.ref 10008), some (.ref 10009), some (.ref 10010), some (.ref 10011), some (.ref 10012), some (.ref 10013), some (.ref 10014), some (.ref 10015), some (.ref 10016), some (.ref 10017), some (.ref 10018), some (.ref 10019), some (.ref 10020), some (.ref 10021), some (.ref 10022), some (.ref 10023), some (.ref 10024), some (.ref 10025), some (.ref 10026), some (.ref 10027), some (.ref 10028), some (.ref 10029), some (.ref 10030), some (.ref 10031)]), (2, 51, []), (0, 0, []), (0, 0, []), (1, 8, [none, none, none, none, none, some (.ref 186), some (.ref 187), some (.ref 188), some (.ref 189), some (.ref 190)]), (0, 0, []), (0, 0, []), (0, 0, []), (0, 0, []), (0, 0, []), (1, 5, [some (.ref 1), some (.ref 192), some (.ref 193), some (.ref 194), some (.ref 195)]), (0, 0, []), (0, 0, []), (0, 0, []), (1, 50, [some (.ref 196), some (.ref 197), some (.ref 198), some (.ref 199), some (.ref 200), some (.ref 201)]), (0, 0, []), (0, 0, []), (0, 0, []), (0, 0, [])]
def zsh_5 : List (Nat × Nat × List (Option Value)) := [(0, 0, []), (0, 0, []), (1, 1, [some (.ref 1), some (.ref 191), none, none, some (.ref 203), none, none, none, none, some (.ref 204), some (.ref 205)]), (0, 0, []), (0, 0, []), (0, 0, []), (1, 3, [some (.ref 1), some (.ref 207)]), (0, 0, []), (1, 6, [some (.ref 1), some (.ref 191), some (.ref 206), some (.ref 209)]), (1, 50, [some (.ref 210), some (.ref 211), some (.ref 212), some (.ref 213), some (.ref 214), some (.ref 215), some (.ref 216), some (.ref 217), some (.ref 218), some (.ref 219), some (.ref 220), some (.ref 221), some (.ref 222), some (.ref 223), some (.ref 224), some (.ref 225)]), (0, 0, []), (0, 0, []), (0, 0, []), (0, 0, []), (0, 0, []), (0, 0, []), (0, 0, []), (0, 0, []), (0, 0, []), (0, 0, []), (0, 0, []), (0, 0, []), (0, 0, []), (0, 0, []), (0, 0, []), (0, 0, []), (1, 2, [some (.ref 1), some (.ref 191), some (.ref 206), some (.ref 227), some (.ref 228), some (.ref 229), some (.ref 230), some (.ref 232), none]), (0, 0, []), (0, 0, []), (0, 0, []), (1, 7, [some (.int (nI 2)), some (.ref 231), some (.int (nI 60)), none]), (0, 0, []), (1, 7, [some (.int (nI 2)), some (.ref 233), some (.int (nI 60)), none]), (0, 0, []), (1, 0, [some (.ref 1), some (.ref 235), some (.ref 236), some (.ref 237), some (.ref 242), some (.ref 243), some (.ref 244), some (.ref 245), none, none, none, none, none, none]), (0, 0, []), (0, 0, []), (1, 50, [some (.ref 238), some (.ref 239), some (.ref 240), some (.ref 241)]), (0, 0, []), (0, 0, [])]
def zsh_6 : List (Nat × Nat × List (Option Value)) := [(0, 0, []), (0, 0, []), (0, 0, []), (0, 0, []), (0, 0, []), (0, 0, []), (1, 11, [some (.ref 247), some (.ref 248), none, some (.ref 249), none, some (.ref 250), some (.ref 251), none, none, some (.ref 252), some (.ref 253), some (.ref 254), none, none, none, none, none, none, none, none, none, none, some (.ref 255), some (.ref 256), some (.ref 257), some (.ref 258), some (.ref 259), some (.ref 260), some (.ref 261), some (.ref 262), some (.ref 263), some (.ref 264), some (.ref 265), some (.ref 266), some (.ref 267), none, none, none]), (0, 0, []), (0, 0, []), (0, 0, []), (0, 0, []), (0, 0, []), (0, 0, []), (0, 0, []), (0, 0, []), (0, 0, []), (0, 0, []), (1, 53, [some (.ref 10100), some (.ref 10101), some (.ref 10102), some (.ref 10103), some (.ref 10104), some (.ref 10105), some (.ref 10106)]), (0, 0, []), (0, 0, []), (0, 0, []), (0, 0, []), (0, 0, []), (0, 0, []), (0, 0, []), (0, 0, []), (0, 0, []), (0, 0, [])]
def zshape : List (Nat × Nat × List (Option Value)) := zsh_0 ++ (zsh_1 ++ (zsh_2 ++ (zsh_3 ++ (zsh_4 ++ (zsh_5 ++ (zsh_6))))))
/-- an array's place -/
def gI (l : List Int32) (j : Nat) : Int32 := l.getD j 0
theorem gI_s {l : List Int32} {j : Nat} {x : Int32} (h : j < l.length) : gI (l.set j x) j = x := by
  simp [gI, h]
theorem gI_n {l : List Int32} {i j : Nat} {x : Int32} (h : ¬ i = j) : gI (l.set i x) j = gI l j := by
  simp [gI, h]
def hp (F : Nat → Nat → Int32) (A : Nat → List Int32) : zH := zshape.mapIdx (fun i s => zfill (F i) (A i) s)
def uF (F : Nat → Nat → Int32) (k b : Nat) (x : Int32) : Nat → Nat → Int32 := fun k' b' => if k' = k ∧ b' = b then x else F k' b'
def uA (A : Nat → List Int32) (k : Nat) (xs : List Int32) : Nat → List Int32 := fun k' => if k' = k then xs else A k'
theorem uA_s {A : Nat → List Int32} {k : Nat} {xs : List Int32} : uA A k xs k = xs := if_pos rfl
theorem uA_n {A : Nat → List Int32} {k j : Nat} {xs : List Int32} (h : j ≠ k) : uA A k xs j = A j := if_neg h
theorem uF_s {F : Nat → Nat → Int32} {k b : Nat} {x : Int32} : uF F k b x k b = x := if_pos ⟨rfl, rfl⟩
theorem uF_k {F : Nat → Nat → Int32} {k b k' b' : Nat} {x : Int32} (h : k' ≠ k) : uF F k b x k' b' = F k' b' := if_neg (fun q => h q.1)
theorem uF_b {F : Nat → Nat → Int32} {k b k' b' : Nat} {x : Int32} (h : b' ≠ b) : uF F k b x k' b' = F k' b' := if_neg (fun q => h q.2)
theorem uF_row {F : Nat → Nat → Int32} {k b j : Nat} {x : Int32} (h : j ≠ k) : uF F k b x j = F j := funext fun b' => if_neg (fun q => h q.1)
theorem hp_len {F : Nat → Nat → Int32} {A : Nat → List Int32} : (hp F A).length = 268 := by
  unfold hp
  rw [List.length_mapIdx]
  decide +kernel
theorem hp_get {F : Nat → Nat → Int32} {A : Nat → List Int32} {k : Nat} {s : Nat × Nat × List (Option Value)} (hs : zshape[k]? = some s) : (hp F A)[k]? = some (zfill (F k) (A k) s) := by
  unfold hp
  rw [List.getElem?_mapIdx, hs]
  rfl
theorem hp_set {F F' : Nat → Nat → Int32} {A A' : Nat → List Int32} {k : Nat} {s : Nat × Nat × List (Option Value)} {e : zE} (hs : zshape[k]? = some s) (he : e = zfill (F' k) (A' k) s) (hF : ∀ j, j ≠ k → F' j = F j) (hA : ∀ j, j ≠ k → A' j = A j) : (hp F A).set k e = hp F' A' := by
  unfold hp
  apply List.ext_getElem?
  intro i
  rw [List.getElem?_set, List.getElem?_mapIdx, List.getElem?_mapIdx]
  by_cases hik : k = i
  · subst hik
    have hl := (List.getElem?_eq_some_iff.mp hs).1
    rw [if_pos rfl, List.length_mapIdx, if_pos hl, hs, he]
    rfl
  · rw [if_neg hik, hF i (fun q => hik q.symm), hA i (fun q => hik q.symm)]
theorem hp_arr {E : zS} {F : Nat → Nat → Int32} {A : Nat → List Int32} {k t : Nat} {tm : List (Option Value)} (hk : k < 10000) (hs : zshape[k]? = some (0, t, tm)) : zarr E (hp F A) k = some (t, A k) := by
  unfold zarr
  rw [if_neg (by omega), hp_get hs]
  rfl
theorem m_gi {E : zS} {F : Nat → Nat → Int32} {A : Nat → List Int32} {k t : Nat} {tm : List (Option Value)} {i : Int32} (hk : k < 10000) (hs : zshape[k]? = some (0, t, tm)) : zgi E (hp F A) k i t = (zix i (A k).length).map (fun j => gI (A k) j) := by
  unfold zgi
  rw [hp_arr hk hs]
  simp [gI]
theorem m_si {F : Nat → Nat → Int32} {A : Nat → List Int32} {k : Nat} {tm : List (Option Value)} {i x : Int32} (hs : zshape[k]? = some (0, 0, tm)) : zsi (hp F A) k i x 0 = (zix i (A k).length).map (fun j => hp F (uA A k ((A k).set j x))) := by
  unfold zsi
  rw [hp_get hs]
  simp only [zfill, if_true]
  refine congrArg (fun f => Option.map f (zix i (A k).length)) (funext fun j => ?_)
  exact hp_set hs (by rw [uA_s]; simp [zfill]) (fun _ _ => rfl) (fun j h => uA_n h)
theorem m_sib {F : Nat → Nat → Int32} {A : Nat → List Int32} {k : Nat} {tm : List (Option Value)} {i x : Int32} (hs : zshape[k]? = some (0, 1, tm)) : zsi (hp F A) k i x 1 = (zix i (A k).length).map (fun j => hp F (uA A k ((A k).set j x.toInt8.toInt32))) := by
  unfold zsi
  rw [hp_get hs]
  simp only [zfill, if_true]
  refine congrArg (fun f => Option.map f (zix i (A k).length)) (funext fun j => ?_)
  exact hp_set hs (by rw [uA_s]; simp [zfill]) (fun _ _ => rfl) (fun j h => uA_n h)
theorem m_ln {E : zS} {F : Nat → Nat → Int32} {A : Nat → List Int32} {k t : Nat} {tm : List (Option Value)} (hk : k < 10000) (ht : t ≤ 1) (hs : zshape[k]? = some (0, t, tm)) : zln E (hp F A) k = some (Int32.ofNat (A k).length) := by
  unfold zln
  rw [hp_arr hk hs]
  simp [ht]
theorem m_fl {F : Nat → Nat → Int32} {A : Nat → List Int32} {k c b : Nat} {tm : List (Option Value)} (hs : zshape[k]? = some (1, c, tm)) : zfl (hp F A) k c b = (tm[b]?).map (fun o => o.getD (.int (F k b))) := by
  unfold zfl
  rw [hp_get hs]
  simp [zfill]
theorem m_rc {F : Nat → Nat → Int32} {A : Nat → List Int32} {k c : Nat} {cI : Int} {tm : List (Option Value)} (hs : zshape[k]? = some (1, c, tm)) (hc : (c : Int) = cI ∧ c < 40) : zrc (hp F A) k cI = true := by
  unfold zrc
  rw [hp_get hs]
  simp [zfill, hc.1, hc.2]
theorem m_sf {F : Nat → Nat → Int32} {A : Nat → List Int32} {k c b : Nat} {tc : Int} {x : Int32} {tm : List (Option Value)} (hs : zshape[k]? = some (1, c, tm)) (hc : c < 40) (hb : tm[b]? = some none) (hf : zfits tc (.int x) = true) : zsf (hp F A) k c b tc (.int x) = some (hp (uF F k b x) A) := by
  have hl := (List.getElem?_eq_some_iff.mp hb).1
  unfold zsf
  rw [hp_get hs]
  simp only [zfill, List.length_mapIdx, hl, hf, hc, and_self, if_true]
  refine congrArg some ?_
  refine hp_set hs ?_ (fun j h => uF_row h) (fun _ _ => rfl)
  simp only [zfill]
  refine congrArg (fun l => (Sum.inr (c, l) : zE)) ?_
  apply List.ext_getElem?
  intro i
  rw [List.getElem?_set, List.getElem?_mapIdx, List.getElem?_mapIdx, List.length_mapIdx]
  by_cases hib : b = i
  · subst hib
    rw [if_pos rfl, if_pos hl, hb]
    simp [uF]
  · rw [if_neg hib]
    cases tm[i]? with
    | none => rfl
    | some o =>
      have : uF F k b x k i = F k i := uF_b (fun q => hib q.symm)
      simp [this]
theorem m_sfz {F : Nat → Nat → Int32} {A : Nat → List Int32} {k c b : Nat} {tc : Int} {x : Int32} {tm : List (Option Value)} (hs : zshape[k]? = some (1, c, tm)) (hc : c < 40) (hb : tm[b]? = some none) (ht : tc % 10 = 1) : zsf (hp F A) k c b tc (.int x) = if x = 0 ∨ x = 1 then some (hp (uF F k b x) A) else none := by
  by_cases hx : x = 0 ∨ x = 1
  · rw [if_pos hx]
    exact m_sf hs hc hb (by simp [zfits, ht, hx])
  · rw [if_neg hx]
    unfold zsf
    rw [hp_get hs]
    simp only [zfill]
    rw [if_neg]
    rintro ⟨-, -, -, h4⟩
    simp [zfits, ht, hx] at h4
def zA0 : Nat → List Int32 := fun k => match k with
  | 2 => List.replicate 100 0
  | 5 => List.replicate 288 0
  | 7 => List.replicate 12 0
  | 9 => List.replicate 144 0
  | 11 => [5, 7, 0, 5, 7, 0, 5, 7, 0, 5, 7, 0, 5, 7, 0]
  | 13 => List.replicate 112 0
  | 15 => List.replicate 24 0
  | 17 => List.replicate 48 0
  | 19 => List.replicate 10 0
  | 20 => List.replicate 10 0
  | 21 => List.replicate 10 0
  | 22 => List.replicate 10 0
  | 23 => List.replicate 100 0
  | 25 => List.replicate 10 0
  | 26 => List.replicate 10 0
  | 27 => List.replicate 10 0
  | 28 => List.replicate 10 0
  | 29 => List.replicate 100 0
  | 31 => List.replicate 10 0
  | 32 => List.replicate 10 0
  | 33 => List.replicate 10 0
  | 34 => List.replicate 10 0
  | 35 => List.replicate 100 0
  | 37 => List.replicate 10 0
  | 38 => List.replicate 10 0
  | 39 => List.replicate 10 0
  | 40 => List.replicate 10 0
  | 41 => List.replicate 100 0
  | 43 => List.replicate 10 0
  | 44 => List.replicate 10 0
  | 45 => List.replicate 10 0
  | 46 => List.replicate 10 0
  | 47 => List.replicate 100 0
  | 49 => List.replicate 10 0
  | 50 => List.replicate 10 0
  | 51 => List.replicate 10 0
  | 52 => List.replicate 10 0
  | 53 => List.replicate 100 0
  | 55 => List.replicate 10 0
  | 56 => List.replicate 10 0
  | 57 => List.replicate 10 0
  | 58 => List.replicate 10 0
  | 59 => List.replicate 100 0
  | 61 => List.replicate 10 0
  | 62 => List.replicate 10 0
  | 63 => List.replicate 10 0
  | 64 => List.replicate 10 0
  | 65 => List.replicate 100 0
  | 67 => List.replicate 10 0
  | 68 => List.replicate 10 0
  | 69 => List.replicate 10 0
  | 70 => List.replicate 10 0
  | 71 => List.replicate 100 0
  | 73 => List.replicate 10 0
  | 74 => List.replicate 10 0
  | 75 => List.replicate 10 0
  | 76 => List.replicate 10 0
  | 77 => List.replicate 100 0
  | 79 => List.replicate 10 0
  | 80 => List.replicate 10 0
  | 81 => List.replicate 10 0
  | 82 => List.replicate 10 0
  | 83 => List.replicate 100 0
  | 85 => List.replicate 10 0
  | 86 => List.replicate 10 0
  | 87 => List.replicate 10 0
  | 88 => List.replicate 10 0
  | 89 => List.replicate 100 0
  | 91 => List.replicate 100 0
  | 94 => List.replicate 288 0
  | 96 => List.replicate 12 0
  | 98 => List.replicate 144 0
  | 100 => [5, 7, 0, 5, 7, 0, 5, 7, 0, 5, 7, 0, 5, 7, 0]
  | 102 => List.replicate 112 0
  | 104 => List.replicate 24 0
  | 106 => List.replicate 48 0
  | 108 => List.replicate 10 0
  | 109 => List.replicate 10 0
  | 110 => List.replicate 10 0
  | 111 => List.replicate 10 0
  | 112 => List.replicate 100 0
  | 114 => List.replicate 10 0
  | 115 => List.replicate 10 0
  | 116 => List.replicate 10 0
  | 117 => List.replicate 10 0
  | 118 => List.replicate 100 0
  | 120 => List.replicate 10 0
  | 121 => List.replicate 10 0
  | 122 => List.replicate 10 0
  | 123 => List.replicate 10 0
  | 124 => List.replicate 100 0
  | 126 => List.replicate 10 0
  | 127 => List.replicate 10 0
  | 128 => List.replicate 10 0
  | 129 => List.replicate 10 0
  | 130 => List.replicate 100 0
  | 132 => List.replicate 10 0
  | 133 => List.replicate 10 0
  | 134 => List.replicate 10 0
  | 135 => List.replicate 10 0
  | 136 => List.replicate 100 0
  | 138 => List.replicate 10 0
  | 139 => List.replicate 10 0
  | 140 => List.replicate 10 0
  | 141 => List.replicate 10 0
  | 142 => List.replicate 100 0
  | 144 => List.replicate 10 0
  | 145 => List.replicate 10 0
  | 146 => List.replicate 10 0
  | 147 => List.replicate 10 0
  | 148 => List.replicate 100 0
  | 150 => List.replicate 10 0
  | 151 => List.replicate 10 0
  | 152 => List.replicate 10 0
  | 153 => List.replicate 10 0
  | 154 => List.replicate 100 0
  | 156 => List.replicate 10 0
  | 157 => List.replicate 10 0
  | 158 => List.replicate 10 0
  | 159 => List.replicate 10 0
  | 160 => List.replicate 100 0
  | 162 => List.replicate 10 0
  | 163 => List.replicate 10 0
  | 164 => List.replicate 10 0
  | 165 => List.replicate 10 0
  | 166 => List.replicate 100 0
  | 168 => List.replicate 10 0
  | 169 => List.replicate 10 0
  | 170 => List.replicate 10 0
  | 171 => List.replicate 10 0
  | 172 => List.replicate 100 0
  | 174 => List.replicate 10 0
  | 175 => List.replicate 10 0
  | 176 => List.replicate 10 0
  | 177 => List.replicate 10 0
  | 178 => List.replicate 100 0
  | 180 => List.replicate 300 0
  | 182 => List.replicate 301 (-1)
  | 183 => List.replicate 301 0
  | 184 => List.replicate 301 0
  | 186 => List.replicate 10 0
  | 187 => List.replicate 10 0
  | 188 => List.replicate 10 0
  | 189 => List.replicate 10 0
  | 190 => List.replicate 100 0
  | 192 => [(-3), (-3), 1, 10, (-3), 0, 2, 11, (-3), 1, 3, 12, (-3), 2, 4, 13, (-3), 3, 5, 14, (-3), 4, 6, 15, (-3), 5, 7, 16, (-3), 6, 8, 17, (-3), 7, 9, 18, (-3), 8, (-3), 19, 0, (-3), 11, 20, 1, 10, 12, 21, 2, 11, 13, 22, 3, 12, 14, 23, 4, 13, 15, 24, 5, 14, 16, 25, 6, 15, 17, 26, 7, 16, 18, 27, 8, 17, 19, 28, 9, 18, (-3), 29, 10, (-3), 21, 30, 11, 20, 22, 31, 12, 21, 23, 32, 13, 22, 24, 33, 14, 23, 25, 34, 15, 24, 26, 35, 16, 25, 27, 36, 17, 26, 28, 37, 18, 27, 29, 38, 19, 28, (-3), 39, 20, (-3), 31, 40, 21, 30, 32, 41, 22, 31, 33, 42, 23, 32, 34, 43, 24, 33, 35, 44, 25, 34, 36, 45, 26, 35, 37, 46, 27, 36, 38, 47, 28, 37, 39, 48, 29, 38, (-3), 49, 30, (-3), 41, 50, 31, 40, 42, 51, 32, 41, 43, 52, 33, 42, 44, 53, 34, 43, 45, 54, 35, 44, 46, 55, 36, 45, 47, 56, 37, 46, 48, 57, 38, 47, 49, 58, 39, 48, (-3), 59, 40, (-3), 51, 60, 41, 50, 52, 61, 42, 51, 53, 62, 43, 52, 54, 63, 44, 53, 55, 64, 45, 54, 56, 65, 46, 55, 57, 66, 47, 56, 58, 67, 48, 57, 59, 68, 49, 58, (-3), 69, 50, (-3), 61, 70, 51, 60, 62, 71, 52, 61, 63, 72, 53, 62, 64, 73, 54, 63, 65, 74, 55, 64, 66, 75, 56, 65, 67, 76, 57, 66, 68, 77, 58, 67, 69, 78, 59, 68, (-3), 79, 60, (-3), 71, 80, 61, 70, 72, 81, 62, 71, 73, 82, 63, 72, 74, 83, 64, 73, 75, 84, 65, 74, 76, 85, 66, 75, 77, 86, 67, 76, 78, 87, 68, 77, 79, 88, 69, 78, (-3), 89, 70, (-3), 81, 90, 71, 80, 82, 91, 72, 81, 83, 92, 73, 82, 84, 93, 74, 83, 85, 94, 75, 84, 86, 95, 76, 85, 87, 96, 77, 86, 88, 97, 78, 87, 89, 98, 79, 88, (-3), 99, 80, (-3), 91, (-3), 81, 90, 92, (-3), 82, 91, 93, (-3), 83, 92, 94, (-3), 84, 93, 95, (-3), 85, 94, 96, (-3), 86, 95, 97, (-3), 87, 96, 98, (-3), 88, 97, 99, (-3), 89, 98, (-3), (-3)]
  | 193 => List.replicate 100 0
  | 194 => List.replicate 100 0
  | 196 => List.replicate 100 0
  | 197 => List.replicate 100 0
  | 198 => List.replicate 100 0
  | 199 => List.replicate 100 0
  | 200 => List.replicate 100 0
  | 201 => List.replicate 100 0
  | 203 => List.replicate 30 0
  | 204 => List.replicate 24 0
  | 205 => List.replicate 24 0
  | 207 => List.replicate 256 0
  | 210 => List.replicate 100 0
  | 211 => List.replicate 100 0
  | 212 => List.replicate 100 0
  | 213 => List.replicate 100 0
  | 214 => List.replicate 100 0
  | 215 => List.replicate 100 0
  | 216 => List.replicate 100 0
  | 217 => List.replicate 100 0
  | 218 => List.replicate 100 0
  | 219 => List.replicate 100 0
  | 220 => List.replicate 100 0
  | 221 => List.replicate 100 0
  | 222 => List.replicate 100 0
  | 223 => List.replicate 100 0
  | 224 => List.replicate 100 0
  | 225 => List.replicate 100 0
  | 227 => List.replicate 6100 0
  | 228 => List.replicate 100 0
  | 229 => List.replicate 100 0
  | 231 => List.replicate 120 0
  | 233 => List.replicate 120 0
  | 235 => [(-1), (-1), (-1), (-1)]
  | 236 => [0, 0, 0, 0]
  | 238 => List.replicate 40 0
  | 239 => List.replicate 40 0
  | 240 => List.replicate 40 0
  | 241 => List.replicate 40 0
  | 242 => [2, 2, 2, 2]
  | 243 => [0, 0, 0, 0]
  | 244 => [0, 0, 0, 0]
  | 245 => List.replicate 30 0
  | 247 => List.replicate 1282 0 ++ [5, 7, 0, 5, 7, 0, 5, 7, 0, 5, 7, 0, 5, 7] ++ List.replicate 1441 0
  | 248 => List.replicate 2737 0
  | 249 => List.replicate 300 0
  | 250 => List.replicate 120 0
  | 251 => List.replicate 120 0
  | 252 => List.replicate 100 0
  | 253 => List.replicate 100 0
  | 254 => List.replicate 600 0
  | 255 => List.replicate 40 0
  | 256 => List.replicate 120 0
  | 258 => [0, 0, 0, 0, 0, 0]
  | 259 => List.replicate 120 0
  | 260 => List.replicate 6100 0
  | 261 => [(-1), (-1), (-1), (-1)]
  | 262 => [0, 0, 0, 0]
  | 263 => List.replicate 160 0
  | 264 => [0, 0, 0, 0]
  | 265 => [0, 0, 0, 0]
  | 266 => [0, 0, 0, 0]
  | 267 => List.replicate 30 0
  | _ => []
def zF0 : Nat → Nat → Int32 := fun k b => match k, b with
  | 10, 3 => 5
  | 99, 3 => 5
  | 202, 2 => 1
  | 202, 3 => (-3)
  | 246, 8 => (-1)
  | 246, 13 => (-1)
  | 246, 14 => (-1)
  | _, _ => 0
