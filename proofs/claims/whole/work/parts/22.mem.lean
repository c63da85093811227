/-! Ints as numbers. Own text. -/
def wr (x : Int) : Int := (x + 2147483648) % 4294967296 - 2147483648
def iI (x : Int) : Int32 := Int32.ofInt x
theorem wr_of {x : Int} (h1 : -2147483648 ≤ x) (h2 : x < 2147483648) : wr x = x := by unfold wr; omega
theorem wr_lo (x : Int) : -2147483648 ≤ wr x := by unfold wr; omega
theorem wr_hi (x : Int) : wr x < 2147483648 := by unfold wr; omega
theorem wr_wr {x : Int} : wr (wr x) = wr x := wr_of (wr_lo x) (wr_hi x)
theorem bm_wr {x : Int} : x.bmod 4294967296 = wr x := by
  unfold wr
  rw [Int.bmod_def]
  split <;> omega
theorem iI_toInt {x : Int} : (iI x).toInt = wr x := by
  unfold iI
  rw [Int32.toInt_ofInt]
  exact bm_wr
theorem iI_of (x : Int32) : iI x.toInt = x := Int32.ofInt_toInt x
theorem iI_wr {x : Int} : iI (wr x) = iI x := by rw [← iI_toInt, iI_of]
theorem wr_toInt {x : Int32} : wr x.toInt = x.toInt := by rw [← iI_toInt, iI_of]
theorem iI_eq {x y : Int} : iI x = iI y ↔ wr x = wr y := by rw [← Int32.toInt_inj, iI_toInt, iI_toInt]
theorem iI_lt {x y : Int} : iI x < iI y ↔ wr x < wr y := by rw [Int32.lt_iff_toInt_lt, iI_toInt, iI_toInt]
theorem iI_le {x y : Int} : iI x ≤ iI y ↔ wr x ≤ wr y := by rw [Int32.le_iff_toInt_le, iI_toInt, iI_toInt]
theorem iI_add {x y : Int} : iI x + iI y = iI (x + y) := (Int32.ofInt_add x y).symm
theorem iI_sub {x y : Int} : iI x - iI y = iI (x - y) := (Int32.ofInt_sub x y).symm
theorem iI_mul {x y : Int} : iI x * iI y = iI (x * y) := (Int32.ofInt_mul x y).symm
theorem iI_neg {x : Int} : -iI x = iI (-x) := (Int32.ofInt_neg x).symm
theorem iI_0 : iI 0 = 0 := rfl
theorem iI_1 : iI 1 = 1 := rfl
def jand (x y : Int) : Int := (iI x &&& iI y).toInt
def jor (x y : Int) : Int := (iI x ||| iI y).toInt
def jxor (x y : Int) : Int := (iI x ^^^ iI y).toInt
def jshl (x y : Int) : Int := (iI x <<< (iI y &&& 31)).toInt
def jshr (x y : Int) : Int := (iI x >>> (iI y &&& 31)).toInt
def jush (x y : Int) : Int := ((iI x).toUInt32 >>> ((iI y).toUInt32 &&& Int32.toUInt32 31)).toInt32.toInt
def jdiv (x y : Int) : Int := (wr x).tdiv (wr y)
def jrem (x y : Int) : Int := (wr x).tmod (wr y)
def j8 (x : Int) : Int := (x + 128) % 256 - 128
def j16 (x : Int) : Int := (x + 32768) % 65536 - 32768
theorem jdiv_ok {x y : Int} : iI x / iI y = iI (jdiv x y) := by
  apply Int32.toInt_inj.mp
  rw [Int32.toInt_div, iI_toInt, iI_toInt, iI_toInt]
  exact bm_wr
theorem jrem_ok {x y : Int} : iI x - iI x / iI y * iI y = iI (jrem x y) := by
  unfold jrem
  rw [jdiv_ok, Int.tmod_def, ← iI_sub, ← iI_mul, iI_wr, iI_wr, Int32.mul_comm]
  rfl
theorem j8_ok {x : Int} : (iI x).toInt8.toInt32 = iI (j8 x) := by
  apply Int32.toInt_inj.mp
  rw [Int8.toInt_toInt32, Int32.toInt_toInt8, iI_toInt, iI_toInt]
  unfold wr j8
  rw [Int.bmod_def]
  split <;> omega
theorem j16_ok {x : Int} : (iI x).toInt16.toInt32 = iI (j16 x) := by
  apply Int32.toInt_inj.mp
  rw [Int16.toInt_toInt32, Int32.toInt_toInt16, iI_toInt, iI_toInt]
  unfold wr j16
  rw [Int.bmod_def]
  split <;> omega
theorem jand_ok {x y : Int} : iI x &&& iI y = iI (jand x y) := (iI_of _).symm
theorem jor_ok {x y : Int} : iI x ||| iI y = iI (jor x y) := (iI_of _).symm
theorem jxor_ok {x y : Int} : iI x ^^^ iI y = iI (jxor x y) := (iI_of _).symm
theorem jshl_ok {x y : Int} : iI x <<< (iI y &&& 31) = iI (jshl x y) := (iI_of _).symm
theorem jshr_ok {x y : Int} : iI x >>> (iI y &&& 31) = iI (jshr x y) := (iI_of _).symm
theorem jush_ok {x y : Int} : ((iI x).toUInt32 >>> ((iI y).toUInt32 &&& Int32.toUInt32 31)).toInt32 = iI (jush x y) := (iI_of _).symm
theorem wr_jand {x y : Int} : wr (jand x y) = jand x y := wr_toInt
theorem wr_jor {x y : Int} : wr (jor x y) = jor x y := wr_toInt
theorem wr_jxor {x y : Int} : wr (jxor x y) = jxor x y := wr_toInt
theorem wr_jshl {x y : Int} : wr (jshl x y) = jshl x y := wr_toInt
theorem wr_jshr {x y : Int} : wr (jshr x y) = jshr x y := wr_toInt
theorem wr_jush {x y : Int} : wr (jush x y) = jush x y := wr_toInt
theorem iI_clamp {x : Int} (h : 0 ≤ wr x) : (iI x).toNatClampNeg = (wr x).toNat := by
  show (iI x).toInt.toNat = _
  rw [iI_toInt]
theorem iI_n0 {x : Int} : iI x < 0 ↔ wr x < 0 := by
  rw [← iI_0, iI_lt]
  rfl
abbrev zMm : Type := Nat → Int → Int
theorem zix_iI {x : Int} {n : Nat} (h0 : 0 ≤ wr x) (h : wr x < n) : zix (iI x) n = some (wr x).toNat := by
  unfold zix
  rw [iI_clamp h0, if_neg]
  rintro (h2 | h2)
  · exact absurd (iI_n0.mp h2) (by omega)
  · omega
theorem zix_no {x : Int} {n : Nat} (h : ¬ (0 ≤ wr x ∧ wr x < n)) : zix (iI x) n = none := by
  unfold zix
  by_cases h0 : 0 ≤ wr x
  · rw [iI_clamp h0, if_pos]
    exact Or.inr (by omega)
  · rw [if_pos]
    exact Or.inl (iI_n0.mpr (by omega))
def zwr (x : Int) : Value := if x < 0 then .null else .ref (10000 + x.toNat)
theorem zwr_n {x : Int} (h : 0 ≤ x) : zwr x = .ref (10000 + x.toNat) := if_neg (by omega)
abbrev zSh : Type := Nat × Nat × Nat × List (Option Value)
def zfill (f : Int → Int) : zSh → zE
  | (0, t, n, _) => .inl (t, (List.range n).map (fun j : Nat => iI (f (j : Int))))
  | (1, c, _, tm) => .inr (c, tm.mapIdx (fun j o => o.getD (.int (iI (f (j : Nat))))))
  | (2, _, n, _) => .inr (51, (List.range n).map (fun j : Nat => zwr (f (j : Int))))
  | (_, c, _, tm) => .inr (c, tm.mapIdx (fun j o => if j = 8 then zwr (f 8) else o.getD (.int (iI (f (j : Nat))))))

def zsh_0 : List zSh := [(1, 10, 0, [some (.ref 1), some (.ref 90), some (.ref 179), some (.ref 191), some (.ref 202), some (.ref 206), some (.ref 208), some (.ref 226), some (.ref 234), none]), (1, 9, 0, [none, none, none, some (.ref 2), some (.ref 3), some (.ref 4), some (.ref 6), some (.ref 8), some (.ref 10), some (.ref 12), some (.ref 14), some (.ref 16)]), (0, 0, 100, []), (1, 52, 0, [some (.ref 18), some (.ref 24), some (.ref 30), some (.ref 36), some (.ref 42), some (.ref 48), some (.ref 54), some (.ref 60), some (.ref 66), some (.ref 72), some (.ref 78), some (.ref 84)]), (1, 7, 0, [some (.int (iI 18)), some (.ref 5), some (.int (iI 16)), none]), (0, 0, 288, []), (1, 7, 0, [some (.int (iI 2)), some (.ref 7), some (.int (iI 6)), none]), (0, 0, 12, []), (1, 7, 0, [some (.int (iI 6)), some (.ref 9), some (.int (iI 24)), none]), (0, 0, 144, []), (1, 7, 0, [some (.int (iI 3)), some (.ref 11), some (.int (iI 5)), none]), (0, 0, 15, []), (1, 7, 0, [some (.int (iI 7)), some (.ref 13), some (.int (iI 16)), none]), (0, 0, 112, []), (1, 7, 0, [some (.int (iI 3)), some (.ref 15), some (.int (iI 8)), none]), (0, 0, 24, []), (1, 7, 0, [some (.int (iI 3)), some (.ref 17), some (.int (iI 16)), none]), (0, 0, 48, []), (1, 8, 0, [none, none, none, none, none, some (.ref 19), some (.ref 20), some (.ref 21), some (.ref 22), some (.ref 23)]), (0, 0, 10, []), (0, 0, 10, []), (0, 0, 10, []), (0, 0, 10, []), (0, 0, 100, []), (1, 8, 0, [none, none, none, none, none, some (.ref 25), some (.ref 26), some (.ref 27), some (.ref 28), some (.ref 29)]), (0, 0, 10, []), (0, 0, 10, []), (0, 0, 10, []), (0, 0, 10, []), (0, 0, 100, []), (1, 8, 0, [none, none, none, none, none, some (.ref 31), some (.ref 32), some (.ref 33), some (.ref 34), some (.ref 35)]), (0, 0, 10, []), (0, 0, 10, []), (0, 0, 10, []), (0, 0, 10, []), (0, 0, 100, []), (1, 8, 0, [none, none, none, none, none, some (.ref 37), some (.ref 38), some (.ref 39), some (.ref 40), some (.ref 41)]), (0, 0, 10, []), (0, 0, 10, []), (0, 0, 10, [])]
def zsh_1 : List zSh := [(0, 0, 10, []), (0, 0, 100, []), (1, 8, 0, [none, none, none, none, none, some (.ref 43), some (.ref 44), some (.ref 45), some (.ref 46), some (.ref 47)]), (0, 0, 10, []), (0, 0, 10, []), (0, 0, 10, []), (0, 0, 10, []), (0, 0, 100, []), (1, 8, 0, [none, none, none, none, none, some (.ref 49), some (.ref 50), some (.ref 51), some (.ref 52), some (.ref 53)]), (0, 0, 10, []), (0, 0, 10, []), (0, 0, 10, []), (0, 0, 10, []), (0, 0, 100, []), (1, 8, 0, [none, none, none, none, none, some (.ref 55), some (.ref 56), some (.ref 57), some (.ref 58), some (.ref 59)]), (0, 0, 10, []), (0, 0, 10, []), (0, 0, 10, []), (0, 0, 10, []), (0, 0, 100, []), (1, 8, 0, [none, none, none, none, none, some (.ref 61), some (.ref 62), some (.ref 63), some (.ref 64), some (.ref 65)]), (0, 0, 10, []), (0, 0, 10, []), (0, 0, 10, []), (0, 0, 10, []), (0, 0, 100, []), (1, 8, 0, [none, none, none, none, none, some (.ref 67), some (.ref 68), some (.ref 69), some (.ref 70), some (.ref 71)]), (0, 0, 10, []), (0, 0, 10, []), (0, 0, 10, []), (0, 0, 10, []), (0, 0, 100, []), (1, 8, 0, [none, none, none, none, none, some (.ref 73), some (.ref 74), some (.ref 75), some (.ref 76), some (.ref 77)]), (0, 0, 10, []), (0, 0, 10, []), (0, 0, 10, []), (0, 0, 10, []), (0, 0, 100, []), (1, 8, 0, [none, none, none, none, none, some (.ref 79), some (.ref 80), some (.ref 81), some (.ref 82), some (.ref 83)]), (0, 0, 10, [])]
def zsh_2 : List zSh := [(0, 0, 10, []), (0, 0, 10, []), (0, 0, 10, []), (0, 0, 100, []), (1, 8, 0, [none, none, none, none, none, some (.ref 85), some (.ref 86), some (.ref 87), some (.ref 88), some (.ref 89)]), (0, 0, 10, []), (0, 0, 10, []), (0, 0, 10, []), (0, 0, 10, []), (0, 0, 100, []), (1, 9, 0, [none, none, none, some (.ref 91), some (.ref 92), some (.ref 93), some (.ref 95), some (.ref 97), some (.ref 99), some (.ref 101), some (.ref 103), some (.ref 105)]), (0, 0, 100, []), (1, 52, 0, [some (.ref 107), some (.ref 113), some (.ref 119), some (.ref 125), some (.ref 131), some (.ref 137), some (.ref 143), some (.ref 149), some (.ref 155), some (.ref 161), some (.ref 167), some (.ref 173)]), (1, 7, 0, [some (.int (iI 18)), some (.ref 94), some (.int (iI 16)), none]), (0, 0, 288, []), (1, 7, 0, [some (.int (iI 2)), some (.ref 96), some (.int (iI 6)), none]), (0, 0, 12, []), (1, 7, 0, [some (.int (iI 6)), some (.ref 98), some (.int (iI 24)), none]), (0, 0, 144, []), (1, 7, 0, [some (.int (iI 3)), some (.ref 100), some (.int (iI 5)), none]), (0, 0, 15, []), (1, 7, 0, [some (.int (iI 7)), some (.ref 102), some (.int (iI 16)), none]), (0, 0, 112, []), (1, 7, 0, [some (.int (iI 3)), some (.ref 104), some (.int (iI 8)), none]), (0, 0, 24, []), (1, 7, 0, [some (.int (iI 3)), some (.ref 106), some (.int (iI 16)), none]), (0, 0, 48, []), (1, 8, 0, [none, none, none, none, none, some (.ref 108), some (.ref 109), some (.ref 110), some (.ref 111), some (.ref 112)]), (0, 0, 10, []), (0, 0, 10, []), (0, 0, 10, []), (0, 0, 10, []), (0, 0, 100, []), (1, 8, 0, [none, none, none, none, none, some (.ref 114), some (.ref 115), some (.ref 116), some (.ref 117), some (.ref 118)]), (0, 0, 10, []), (0, 0, 10, []), (0, 0, 10, []), (0, 0, 10, []), (0, 0, 100, []), (1, 8, 0, [none, none, none, none, none, some (.ref 120), some (.ref 121), some (.ref 122), some (.ref 123), some (.ref 124)])]
def zsh_3 : List zSh := [(0, 0, 10, []), (0, 0, 10, []), (0, 0, 10, []), (0, 0, 10, []), (0, 0, 100, []), (1, 8, 0, [none, none, none, none, none, some (.ref 126), some (.ref 127), some (.ref 128), some (.ref 129), some (.ref 130)]), (0, 0, 10, []), (0, 0, 10, []), (0, 0, 10, []), (0, 0, 10, []), (0, 0, 100, []), (1, 8, 0, [none, none, none, none, none, some (.ref 132), some (.ref 133), some (.ref 134), some (.ref 135), some (.ref 136)]), (0, 0, 10, []), (0, 0, 10, []), (0, 0, 10, []), (0, 0, 10, []), (0, 0, 100, []), (1, 8, 0, [none, none, none, none, none, some (.ref 138), some (.ref 139), some (.ref 140), some (.ref 141), some (.ref 142)]), (0, 0, 10, []), (0, 0, 10, []), (0, 0, 10, []), (0, 0, 10, []), (0, 0, 100, []), (1, 8, 0, [none, none, none, none, none, some (.ref 144), some (.ref 145), some (.ref 146), some (.ref 147), some (.ref 148)]), (0, 0, 10, []), (0, 0, 10, []), (0, 0, 10, []), (0, 0, 10, []), (0, 0, 100, []), (1, 8, 0, [none, none, none, none, none, some (.ref 150), some (.ref 151), some (.ref 152), some (.ref 153), some (.ref 154)]), (0, 0, 10, []), (0, 0, 10, []), (0, 0, 10, []), (0, 0, 10, []), (0, 0, 100, []), (1, 8, 0, [none, none, none, none, none, some (.ref 156), some (.ref 157), some (.ref 158), some (.ref 159), some (.ref 160)]), (0, 0, 10, []), (0, 0, 10, []), (0, 0, 10, []), (0, 0, 10, [])]
def zsh_4 : List zSh := [(0, 0, 100, []), (1, 8, 0, [none, none, none, none, none, some (.ref 162), some (.ref 163), some (.ref 164), some (.ref 165), some (.ref 166)]), (0, 0, 10, []), (0, 0, 10, []), (0, 0, 10, []), (0, 0, 10, []), (0, 0, 100, []), (1, 8, 0, [none, none, none, none, none, some (.ref 168), some (.ref 169), some (.ref 170), some (.ref 171), some (.ref 172)]), (0, 0, 10, []), (0, 0, 10, []), (0, 0, 10, []), (0, 0, 10, []), (0, 0, 100, []), (1, 8, 0, [none, none, none, none, none, some (.ref 174), some (.ref 175), some (.ref 176), some (.ref 177), some (.ref 178)]), (0, 0, 10, []), (0, 0, 10, []), (0, 0, 10, []), (0, 0, 10, []), (0, 0, 100, []), (3, 4, 0, [some (.ref 180), none, some (.ref 181), some (.ref 182), some (.ref 183), some (.ref 184), none, none, none, some (.ref 185)]), (0, 1, 300, []), (1, 51, 0, [some (.ref 10000), some (.ref 10001), some (.ref 10002), some (.ref 10003), some (.ref 10004), some (.ref 10005), some (.ref 10006), some (.ref 10007), some (.ref 10008), some (.ref 10009), some (.ref 10010), some (.ref 10011), some (.ref 10012), some (.ref 10013), some (.ref 10014), some (.ref 10015), some (.ref 10016), some (.ref 10017), some (.ref 10018), some (.ref 10019), some (.ref 10020), some (.ref 10021), some (.ref 10022), some (.ref 10023), some (.ref 10024), some (.ref 10025), some (.ref 10026), some (.ref 10027), some (.ref 10028), some (.ref 10029), some (.ref 10030), some (.ref 10031)]), (2, 51, 301, []), (0, 0, 301, []), (0, 0, 301, []), (1, 8, 0, [none, none, none, none, none, some (.ref 186), some (.ref 187), some (.ref 188), some (.ref 189), some (.ref 190)]), (0, 0, 10, []), (0, 0, 10, []), (0, 0, 10, []), (0, 0, 10, []), (0, 0, 100, []), (1, 5, 0, [some (.ref 1), some (.ref 192), some (.ref 193), some (.ref 194), some (.ref 195)]), (0, 0, 400, []), (0, 0, 100, []), (0, 0, 100, []), (1, 50, 0, [some (.ref 196), some (.ref 197), some (.ref 198), some (.ref 199), some (.ref 200), some (.ref 201)]), (0, 0, 100, []), (0, 0, 100, []), (0, 0, 100, []), (0, 0, 100, [])]
def zsh_5 : List zSh := [(0, 0, 100, []), (0, 0, 100, []), (1, 1, 0, [some (.ref 1), some (.ref 191), none, none, some (.ref 203), none, none, none, none, some (.ref 204), some (.ref 205)]), (0, 0, 30, []), (0, 0, 24, []), (0, 0, 24, []), (1, 3, 0, [some (.ref 1), some (.ref 207)]), (0, 0, 256, []), (1, 6, 0, [some (.ref 1), some (.ref 191), some (.ref 206), some (.ref 209)]), (1, 50, 0, [some (.ref 210), some (.ref 211), some (.ref 212), some (.ref 213), some (.ref 214), some (.ref 215), some (.ref 216), some (.ref 217), some (.ref 218), some (.ref 219), some (.ref 220), some (.ref 221), some (.ref 222), some (.ref 223), some (.ref 224), some (.ref 225)]), (0, 0, 100, []), (0, 0, 100, []), (0, 0, 100, []), (0, 0, 100, []), (0, 0, 100, []), (0, 0, 100, []), (0, 0, 100, []), (0, 0, 100, []), (0, 0, 100, []), (0, 0, 100, []), (0, 0, 100, []), (0, 0, 100, []), (0, 0, 100, []), (0, 0, 100, []), (0, 0, 100, []), (0, 0, 100, []), (1, 2, 0, [some (.ref 1), some (.ref 191), some (.ref 206), some (.ref 227), some (.ref 228), some (.ref 229), some (.ref 230), some (.ref 232), none]), (0, 0, 6100, []), (0, 0, 100, []), (0, 0, 100, []), (1, 7, 0, [some (.int (iI 2)), some (.ref 231), some (.int (iI 60)), none]), (0, 0, 120, []), (1, 7, 0, [some (.int (iI 2)), some (.ref 233), some (.int (iI 60)), none]), (0, 0, 120, []), (1, 0, 0, [some (.ref 1), some (.ref 235), some (.ref 236), some (.ref 237), some (.ref 242), some (.ref 243), some (.ref 244), some (.ref 245), none, none, none, none, none, none]), (0, 0, 4, []), (0, 0, 4, []), (1, 50, 0, [some (.ref 238), some (.ref 239), some (.ref 240), some (.ref 241)]), (0, 0, 40, []), (0, 0, 40, [])]
def zsh_6 : List zSh := [(0, 0, 40, []), (0, 0, 40, []), (0, 0, 4, []), (0, 0, 4, []), (0, 0, 4, []), (0, 0, 30, []), (1, 11, 0, [some (.ref 247), some (.ref 248), none, some (.ref 249), none, some (.ref 250), some (.ref 251), none, none, some (.ref 252), some (.ref 253), some (.ref 254), none, none, none, none, none, none, none, none, none, none, some (.ref 255), some (.ref 256), some (.ref 257), some (.ref 258), some (.ref 259), some (.ref 260), some (.ref 261), some (.ref 262), some (.ref 263), some (.ref 264), some (.ref 265), some (.ref 266), some (.ref 267), none, none, none]), (0, 0, 2737, []), (0, 0, 2737, []), (0, 0, 300, []), (0, 0, 120, []), (0, 0, 120, []), (0, 0, 100, []), (0, 0, 100, []), (0, 0, 600, []), (0, 0, 40, []), (0, 0, 120, []), (1, 53, 0, [some (.ref 10100), some (.ref 10101), some (.ref 10102), some (.ref 10103), some (.ref 10104), some (.ref 10105), some (.ref 10106)]), (0, 0, 6, []), (0, 0, 120, []), (0, 0, 6100, []), (0, 0, 4, []), (0, 0, 4, []), (0, 0, 160, []), (0, 0, 4, []), (0, 0, 4, []), (0, 0, 4, []), (0, 0, 30, [])]
def zshape : List zSh := zsh_0 ++ (zsh_1 ++ (zsh_2 ++ (zsh_3 ++ (zsh_4 ++ (zsh_5 ++ (zsh_6))))))
def hp (m : zMm) : zH := zshape.mapIdx (fun i s => zfill (m i) s)
def um (m : zMm) (k : Nat) (i x : Int) : zMm := fun k' i' => if k' = k ∧ i' = i then x else m k' i'
def ck {α : Type} (P : Prop) [Decidable P] (X : Option α) : Option α := if P then X else none
section HP
variable {E : zS} {m m' : zMm} {k k' n t c b : Nat} {i i' x : Int} {s : zSh} {tm : List (Option Value)}
theorem um_s : um m k i x k i = x := if_pos ⟨rfl, rfl⟩
theorem um_k (h : ¬ k' = k) : um m k i x k' i' = m k' i' := if_neg (fun q => h q.1)
theorem um_i (h : ¬ i' = i) : um m k i x k' i' = m k' i' := if_neg (fun q => h q.2)
theorem um_r (h : ¬ k' = k) : um m k i x k' = m k' := funext fun _ => um_k h
theorem ck_t {α : Type} {P : Prop} [Decidable P] {X : Option α} (h : P) : ck P X = X := if_pos h
theorem ck_cg {α : Type} {P : Prop} [Decidable P] {X Y : Option α} (h : P → X = Y) : ck P X = ck P Y := by
  unfold ck
  split
  · rename_i hp; exact h hp
  · rfl
theorem hp_len : (hp m).length = 268 := by
  unfold hp
  rw [List.length_mapIdx]
  decide +kernel
theorem hp_get (hs : zshape[k]? = some s) : (hp m)[k]? = some (zfill (m k) s) := by
  unfold hp
  rw [List.getElem?_mapIdx, hs]
  rfl
theorem hp_set {e : zE} (hs : zshape[k]? = some s) (he : e = zfill (m' k) s) (hm : ∀ j, j ≠ k → m' j = m j) : (hp m).set k e = hp m' := by
  unfold hp
  apply List.ext_getElem?
  intro i
  rw [List.getElem?_set, List.getElem?_mapIdx, List.getElem?_mapIdx]
  by_cases hik : k = i
  · subst hik
    have hl := (List.getElem?_eq_some_iff.mp hs).1
    rw [if_pos rfl, List.length_mapIdx, if_pos hl, hs, he]
    rfl
  · rw [if_neg hik, hm i (fun q => hik q.symm)]
theorem rg_setg {α : Type} {g : Nat → α} {v : α} {j : Nat} : ((List.range n).map g).set j v = (List.range n).map (fun i => if i = j then v else g i) := by
  apply List.ext_getElem?
  intro i
  rw [List.getElem?_set, List.getElem?_map, List.getElem?_map]
  by_cases hij : j = i
  · subst hij
    rw [if_pos rfl, List.length_map, List.length_range]
    by_cases hjn : j < n
    · rw [if_pos hjn, List.getElem?_range hjn, Option.map_some, if_pos rfl]
    · rw [if_neg hjn, List.getElem?_eq_none (by simpa using hjn)]
      rfl
  · rw [if_neg hij]
    cases hq : (List.range n)[i]? with
    | none => rfl
    | some q =>
      obtain ⟨h1, h2⟩ := List.getElem?_eq_some_iff.mp hq
      rw [List.getElem_range] at h2
      subst h2
      rw [Option.map_some, Option.map_some, if_neg (fun q => hij q.symm)]
theorem rg_um (g : Int → Int32) (hi : 0 ≤ i) : ((List.range n).map (fun j : Nat => g (m k j))).set i.toNat (g x) = (List.range n).map (fun j : Nat => g (um m k i x k j)) := by
  rw [rg_setg]
  refine congrArg (fun f => List.map f (List.range n)) (funext fun j => ?_)
  by_cases hj : j = i.toNat
  · subst hj
    rw [if_pos rfl, Int.toNat_of_nonneg hi, um_s]
  · rw [if_neg hj, um_i (by omega)]
theorem rg_umv (g : Int → Value) (hi : 0 ≤ i) : ((List.range n).map (fun j : Nat => g (m k j))).set i.toNat (g x) = (List.range n).map (fun j : Nat => g (um m k i x k j)) := by
  rw [rg_setg]
  refine congrArg (fun f => List.map f (List.range n)) (funext fun j => ?_)
  by_cases hj : j = i.toNat
  · subst hj
    rw [if_pos rfl, Int.toNat_of_nonneg hi, um_s]
  · rw [if_neg hj, um_i (by omega)]
theorem hp_arr (hk : k < 10000) (hs : zshape[k]? = some (0, t, n, tm)) : zarr E (hp m) k = some (t, (List.range n).map (fun j : Nat => iI (m k j))) := by
  unfold zarr
  rw [if_neg (by omega), hp_get hs]
  rfl
theorem m_gi (hk : k < 10000) (hs : zshape[k]? = some (0, t, n, tm)) : zgi E (hp m) k (iI i) t = if 0 ≤ wr i ∧ wr i < n then some (iI (m k (wr i))) else none := by
  unfold zgi
  rw [hp_arr hk hs]
  simp only [if_true, List.length_map, List.length_range]
  by_cases h : 0 ≤ wr i ∧ wr i < n
  · rw [if_pos h, zix_iI h.1 h.2]
    have h2 : (wr i).toNat < n := by omega
    simp [List.getD, List.getElem?_range h2, Int.toNat_of_nonneg h.1]
  · rw [if_neg h, zix_no h]
    rfl
theorem m_si (hs : zshape[k]? = some (0, 0, n, tm)) : zsi (hp m) k (iI i) (iI x) 0 = if 0 ≤ wr i ∧ wr i < n then some (hp (um m k (wr i) x)) else none := by
  unfold zsi
  rw [hp_get hs]
  simp only [zfill, if_true, List.length_map, List.length_range]
  by_cases h : 0 ≤ wr i ∧ wr i < n
  · rw [if_pos h, zix_iI h.1 h.2, Option.map_some]
    refine congrArg some ?_
    exact hp_set hs (by rw [if_neg (by decide), rg_um _ h.1]; rfl) (fun j h => um_r h)
  · rw [if_neg h, zix_no h]
    rfl
theorem m_sib (hs : zshape[k]? = some (0, 1, n, tm)) : zsi (hp m) k (iI i) (iI x) 1 = if 0 ≤ wr i ∧ wr i < n then some (hp (um m k (wr i) (j8 x))) else none := by
  unfold zsi
  rw [hp_get hs]
  simp only [zfill, if_true, List.length_map, List.length_range]
  by_cases h : 0 ≤ wr i ∧ wr i < n
  · rw [if_pos h, zix_iI h.1 h.2, Option.map_some, j8_ok]
    refine congrArg some ?_
    exact hp_set hs (by rw [rg_um _ h.1]; rfl) (fun j h => um_r h)
  · rw [if_neg h, zix_no h]
    rfl
theorem m_ln (hk : k < 10000) (ht : t ≤ 1) (hs : zshape[k]? = some (0, t, n, tm)) : zln E (hp m) k = some (iI n) := by
  unfold zln
  rw [hp_arr hk hs]
  simp [ht]
  rfl
theorem m_fl (hs : zshape[k]? = some (1, c, n, tm)) : zfl (hp m) k c b = (tm[b]?).map (fun o => o.getD (.int (iI (m k b)))) := by
  unfold zfl
  rw [hp_get hs]
  simp [zfill]
theorem m_rc {cI : Int} (hs : zshape[k]? = some (1, c, n, tm)) (hc : (c : Int) = cI ∧ c < 40) : zrc (hp m) k cI = true := by
  unfold zrc
  rw [hp_get hs]
  simp [zfill, hc.1, hc.2]
theorem m_rc3 {cI : Int} (hs : zshape[k]? = some (3, c, n, tm)) (hc : (c : Int) = cI ∧ c < 40) : zrc (hp m) k cI = true := by
  unfold zrc
  rw [hp_get hs]
  simp [zfill, hc.1, hc.2]
theorem tm_set {f : Nat → Option Value → Value} {g : Nat → Option Value → Value} {v : Value} (hb : tm[b]? = some none) (h1 : g b none = v) (h2 : ∀ i o, ¬ i = b → g i o = f i o) : (tm.mapIdx f).set b v = tm.mapIdx g := by
  have hl := (List.getElem?_eq_some_iff.mp hb).1
  apply List.ext_getElem?
  intro i
  rw [List.getElem?_set, List.getElem?_mapIdx, List.getElem?_mapIdx, List.length_mapIdx]
  by_cases hib : b = i
  · subst hib
    rw [if_pos rfl, if_pos hl, hb]
    simp [h1]
  · rw [if_neg hib]
    cases tm[i]? with
    | none => rfl
    | some o => simp [h2 i o (fun q => hib q.symm)]
theorem m_sf {tc : Int} (hs : zshape[k]? = some (1, c, n, tm)) (hc : c < 40) (hb : tm[b]? = some none) (hf : zfits tc (.int (iI x)) = true) : zsf (hp m) k c b tc (.int (iI x)) = some (hp (um m k b x)) := by
  have hl := (List.getElem?_eq_some_iff.mp hb).1
  unfold zsf
  rw [hp_get hs]
  simp only [zfill, List.length_mapIdx, hl, hf, hc, and_self, if_true]
  refine congrArg some ?_
  refine hp_set hs ?_ (fun j h => um_r h)
  simp only [zfill]
  refine congrArg (fun l => (Sum.inr (c, l) : zE)) ?_
  exact tm_set hb (by simp [um_s]) (fun i o h => by simp [um_i (show ¬ (i : Int) = (b : Int) by omega)])
theorem m_fl3 (hs : zshape[k]? = some (3, c, n, tm)) (hb : ¬ b = 8) : zfl (hp m) k c b = (tm[b]?).map (fun o => o.getD (.int (iI (m k b)))) := by
  unfold zfl
  rw [hp_get hs]
  simp [zfill, hb]
theorem m_fl8 (hs : zshape[k]? = some (3, c, n, tm)) (hb : tm[8]? = some none) : zfl (hp m) k c 8 = some (zwr (m k 8)) := by
  unfold zfl
  rw [hp_get hs]
  simp [zfill, hb]
theorem m_sf3 {tc : Int} (hs : zshape[k]? = some (3, c, n, tm)) (hc : c < 40) (hb : tm[b]? = some none) (hb8 : ¬ b = 8) (hf : zfits tc (.int (iI x)) = true) : zsf (hp m) k c b tc (.int (iI x)) = some (hp (um m k b x)) := by
  have hl := (List.getElem?_eq_some_iff.mp hb).1
  unfold zsf
  rw [hp_get hs]
  simp only [zfill, List.length_mapIdx, hl, hf, hc, and_self, if_true]
  refine congrArg some ?_
  refine hp_set hs ?_ (fun j h => um_r h)
  simp only [zfill]
  refine congrArg (fun l => (Sum.inr (c, l) : zE)) ?_
  exact tm_set hb (by simp [um_s, hb8]) (fun i o h => by simp [um_i (show ¬ (i : Int) = (b : Int) by omega), um_i (show ¬ (8 : Int) = (b : Int) by omega)])
theorem m_sf8 {tc : Int} (hs : zshape[k]? = some (3, c, n, tm)) (hc : c < 40) (hb : tm[8]? = some none) (hx : 0 ≤ x) (hf : tc % 10 = 2) : zsf (hp m) k c 8 tc (.ref (10000 + x.toNat)) = some (hp (um m k 8 x)) := by
  have hl := (List.getElem?_eq_some_iff.mp hb).1
  unfold zsf
  rw [hp_get hs]
  simp only [zfill, List.length_mapIdx, hl, zfits, hf, hc, and_self, if_true, decide_true]
  refine congrArg some ?_
  refine hp_set hs ?_ (fun j h => um_r h)
  simp only [zfill]
  refine congrArg (fun l => (Sum.inr (c, l) : zE)) ?_
  exact tm_set hb (by simp [um_s, zwr_n hx]) (fun i o h => by simp [um_i (show ¬ (i : Int) = 8 by omega), h])
theorem m_gw (hs : zshape[k]? = some (2, t, n, tm)) : zgr (hp m) k (iI i) = if 0 ≤ wr i ∧ wr i < n then (if m k (wr i) < 0 then none else some (10000 + (m k (wr i)).toNat)) else none := by
  unfold zgr
  rw [hp_get hs]
  simp only [zfill, List.length_map, List.length_range]
  by_cases h : 0 ≤ wr i ∧ wr i < n
  · have h2 : (wr i).toNat < n := by omega
    rw [if_pos h, zix_iI h.1 h.2]
    simp only [Option.bind_some, List.getD, List.getElem?_map, List.getElem?_range h2, Option.map_some, Option.getD_some, Int.toNat_of_nonneg h.1]
    unfold zwr
    by_cases h3 : m k (wr i) < 0
    · simp [h3]
    · simp [h3]
  · rw [if_neg h, zix_no h]
    simp
theorem m_sw {y : Int} (hs : zshape[k]? = some (2, t, n, tm)) (hy : 0 ≤ y) (hE : zisE E (10000 + y.toNat) = true) : zsr E (hp m) k (iI i) (10000 + y.toNat) = if 0 ≤ wr i ∧ wr i < n then some (hp (um m k (wr i) y)) else none := by
  unfold zsr
  rw [hp_get hs]
  simp only [zfill, List.length_map, List.length_range]
  rw [if_pos (by simp [hE])]
  by_cases h : 0 ≤ wr i ∧ wr i < n
  · rw [if_pos h, zix_iI h.1 h.2, Option.map_some, ← zwr_n hy]
    refine congrArg some (hp_set hs ?_ (fun j h => um_r h))
    rw [rg_umv _ h.1]
    rfl
  · rw [if_neg h, zix_no h]
    rfl
/-- rows of an array of references -/
theorem m_gr {r : Nat} (hs : zshape[k]? = some (1, c, n, tm)) (hc : 50 ≤ c ∧ c ≤ 53) (h0 : 0 ≤ wr i) (hj : wr i < tm.length) (hr : tm[(wr i).toNat]? = some (some (.ref r))) : zgr (hp m) k (iI i) = some r := by
  unfold zgr
  rw [hp_get hs]
  simp [zfill, hc, zix_iI h0 (by simpa using hj), List.getD, hr]
theorem m_gr0 (hs : zshape[k]? = some (1, c, n, tm)) (h0 : ¬ (0 ≤ wr i ∧ wr i < tm.length)) : zgr (hp m) k (iI i) = none := by
  unfold zgr
  rw [hp_get hs]
  simp only [zfill, List.length_mapIdx]
  rw [zix_no h0]
  split <;> rfl
theorem m_lnr (hs : zshape[k]? = some (1, c, n, tm)) (hk : k < 10000) (hc : 50 ≤ c ∧ c ≤ 53) : zln E (hp m) k = some (iI tm.length) := by
  unfold zln
  have : zarr E (hp m) k = none := by
    unfold zarr
    rw [if_neg (by omega), hp_get hs]
    rfl
  rw [this, hp_get hs]
  simp [zfill, hc]
  rfl
/-- n places of another array -/
def uc (m : zMm) (k0 : Nat) (sp : Int) (k1 : Nat) (dp n : Int) : zMm := fun k i => if k = k1 ∧ dp ≤ i ∧ i < dp + n then m k0 (sp + (i - dp)) else m k i
theorem rg_cpy {f g : Nat → Int32} {n0 n1 sp dp : Nat} (h0 : sp + n ≤ n0) (h1 : dp + n ≤ n1) : zcpy ((List.range n0).map f) ((List.range n1).map g) sp dp n = (List.range n1).map (fun i => if dp ≤ i ∧ i < dp + n then f (sp + (i - dp)) else g i) := by
  unfold zcpy
  apply List.ext_getElem?
  intro i
  by_cases c1 : i < dp
  · rw [List.getElem?_append_left (by simp; omega), List.getElem?_take_of_lt c1, List.getElem?_map, List.getElem?_map, List.getElem?_range (by omega)]
    simp; omega
  · rw [List.getElem?_append_right (by simp; omega)]
    have l1 : (List.take dp (List.map g (List.range n1))).length = dp := by simp; omega
    rw [l1]
    by_cases c2 : i < dp + n
    · rw [List.getElem?_append_left (by simp; omega), List.getElem?_take_of_lt (by omega), List.getElem?_drop, List.getElem?_map, List.getElem?_map, List.getElem?_range (by omega), List.getElem?_range (by omega)]
      simp; omega
    · have l2 : (List.take n (List.drop sp (List.map f (List.range n0)))).length = n := by simp; omega
      rw [List.getElem?_append_right (by rw [l2]; omega), l2, List.getElem?_drop, List.getElem?_map, List.getElem?_map]
      have : dp + n + (i - dp - n) = i := by omega
      rw [this]
      by_cases c3 : i < n1
      · rw [List.getElem?_range c3]
        simp; omega
      · rw [List.getElem?_eq_none (by simpa using c3)]
        rfl
theorem m_cpy {k0 k1 n0 n1 : Nat} {sp dp nn : Int} {tm1 : List (Option Value)} (hs0 : zshape[k0]? = some (0, 0, n0, tm)) (hs1 : zshape[k1]? = some (0, 0, n1, tm1)) (hn : 0 ≤ wr nn) (hsp : 0 ≤ wr sp) (hdp : 0 ≤ wr dp) (h0 : wr sp + wr nn ≤ n0) (h1 : wr dp + wr nn ≤ n1) : zcopy [.int (iI nn), .int (iI dp), .ref k1, .int (iI sp), .ref k0] (hp m) = some ([], hp (uc m k0 (wr sp) k1 (wr dp) (wr nn))) := by
  unfold zcopy
  dsimp only
  rw [hp_get hs0, hp_get hs1]
  simp only [zfill, List.length_map, List.length_range]
  have e1 := iI_clamp hn
  have e2 := iI_clamp hsp
  have e3 := iI_clamp hdp
  have n1' : ¬ iI nn < 0 := fun q => absurd (iI_n0.mp q) (by omega)
  have n2' : ¬ iI sp < 0 := fun q => absurd (iI_n0.mp q) (by omega)
  have n3' : ¬ iI dp < 0 := fun q => absurd (iI_n0.mp q) (by omega)
  rw [if_pos ⟨by decide, n1', n3', n2', by rw [e1, e2]; omega, by rw [e1, e3]; omega⟩]
  rw [e1, e2, e3, rg_cpy (by omega) (by omega)]
  refine congrArg (fun q => some (([] : List Value), q)) ?_
  refine hp_set hs1 ?_ (fun j h => funext fun i => if_neg (fun q => h q.1))
  simp only [zfill]
  refine congrArg (fun l => (Sum.inl (0, l) : zE)) (List.map_congr_left fun i _ => ?_)
  simp only [uc, true_and]
  by_cases hc : (wr dp).toNat ≤ i ∧ i < (wr dp).toNat + (wr nn).toNat
  · rw [if_pos hc, if_pos (by omega)]
    refine congrArg (fun q => iI (m k0 q)) ?_
    omega
  · rw [if_neg hc, if_neg (by omega)]
end HP

theorem hs_0 : zshape[0]? = some (1, 10, 0, [some (.ref 1), some (.ref 90), some (.ref 179), some (.ref 191), some (.ref 202), some (.ref 206), some (.ref 208), some (.ref 226), some (.ref 234), none]) := by decide +kernel
theorem hs_1 : zshape[1]? = some (1, 9, 0, [none, none, none, some (.ref 2), some (.ref 3), some (.ref 4), some (.ref 6), some (.ref 8), some (.ref 10), some (.ref 12), some (.ref 14), some (.ref 16)]) := by decide +kernel
theorem hs_2 : zshape[2]? = some (0, 0, 100, []) := by decide +kernel
theorem hs_3 : zshape[3]? = some (1, 52, 0, [some (.ref 18), some (.ref 24), some (.ref 30), some (.ref 36), some (.ref 42), some (.ref 48), some (.ref 54), some (.ref 60), some (.ref 66), some (.ref 72), some (.ref 78), some (.ref 84)]) := by decide +kernel
theorem hs_4 : zshape[4]? = some (1, 7, 0, [some (.int (iI 18)), some (.ref 5), some (.int (iI 16)), none]) := by decide +kernel
theorem hs_5 : zshape[5]? = some (0, 0, 288, []) := by decide +kernel
theorem hs_6 : zshape[6]? = some (1, 7, 0, [some (.int (iI 2)), some (.ref 7), some (.int (iI 6)), none]) := by decide +kernel
theorem hs_7 : zshape[7]? = some (0, 0, 12, []) := by decide +kernel
theorem hs_8 : zshape[8]? = some (1, 7, 0, [some (.int (iI 6)), some (.ref 9), some (.int (iI 24)), none]) := by decide +kernel
theorem hs_9 : zshape[9]? = some (0, 0, 144, []) := by decide +kernel
theorem hs_10 : zshape[10]? = some (1, 7, 0, [some (.int (iI 3)), some (.ref 11), some (.int (iI 5)), none]) := by decide +kernel
theorem hs_11 : zshape[11]? = some (0, 0, 15, []) := by decide +kernel
theorem hs_12 : zshape[12]? = some (1, 7, 0, [some (.int (iI 7)), some (.ref 13), some (.int (iI 16)), none]) := by decide +kernel
theorem hs_13 : zshape[13]? = some (0, 0, 112, []) := by decide +kernel
theorem hs_14 : zshape[14]? = some (1, 7, 0, [some (.int (iI 3)), some (.ref 15), some (.int (iI 8)), none]) := by decide +kernel
theorem hs_15 : zshape[15]? = some (0, 0, 24, []) := by decide +kernel
theorem hs_16 : zshape[16]? = some (1, 7, 0, [some (.int (iI 3)), some (.ref 17), some (.int (iI 16)), none]) := by decide +kernel
theorem hs_17 : zshape[17]? = some (0, 0, 48, []) := by decide +kernel
theorem hs_18 : zshape[18]? = some (1, 8, 0, [none, none, none, none, none, some (.ref 19), some (.ref 20), some (.ref 21), some (.ref 22), some (.ref 23)]) := by decide +kernel
theorem hs_19 : zshape[19]? = some (0, 0, 10, []) := by decide +kernel
theorem hs_20 : zshape[20]? = some (0, 0, 10, []) := by decide +kernel
theorem hs_21 : zshape[21]? = some (0, 0, 10, []) := by decide +kernel
theorem hs_22 : zshape[22]? = some (0, 0, 10, []) := by decide +kernel
theorem hs_23 : zshape[23]? = some (0, 0, 100, []) := by decide +kernel
theorem hs_24 : zshape[24]? = some (1, 8, 0, [none, none, none, none, none, some (.ref 25), some (.ref 26), some (.ref 27), some (.ref 28), some (.ref 29)]) := by decide +kernel
theorem hs_25 : zshape[25]? = some (0, 0, 10, []) := by decide +kernel
theorem hs_26 : zshape[26]? = some (0, 0, 10, []) := by decide +kernel
theorem hs_27 : zshape[27]? = some (0, 0, 10, []) := by decide +kernel
theorem hs_28 : zshape[28]? = some (0, 0, 10, []) := by decide +kernel
theorem hs_29 : zshape[29]? = some (0, 0, 100, []) := by decide +kernel
theorem hs_30 : zshape[30]? = some (1, 8, 0, [none, none, none, none, none, some (.ref 31), some (.ref 32), some (.ref 33), some (.ref 34), some (.ref 35)]) := by decide +kernel
theorem hs_31 : zshape[31]? = some (0, 0, 10, []) := by decide +kernel
theorem hs_32 : zshape[32]? = some (0, 0, 10, []) := by decide +kernel
theorem hs_33 : zshape[33]? = some (0, 0, 10, []) := by decide +kernel
theorem hs_34 : zshape[34]? = some (0, 0, 10, []) := by decide +kernel
theorem hs_35 : zshape[35]? = some (0, 0, 100, []) := by decide +kernel
theorem hs_36 : zshape[36]? = some (1, 8, 0, [none, none, none, none, none, some (.ref 37), some (.ref 38), some (.ref 39), some (.ref 40), some (.ref 41)]) := by decide +kernel
theorem hs_37 : zshape[37]? = some (0, 0, 10, []) := by decide +kernel
theorem hs_38 : zshape[38]? = some (0, 0, 10, []) := by decide +kernel
theorem hs_39 : zshape[39]? = some (0, 0, 10, []) := by decide +kernel
theorem hs_40 : zshape[40]? = some (0, 0, 10, []) := by decide +kernel
theorem hs_41 : zshape[41]? = some (0, 0, 100, []) := by decide +kernel
theorem hs_42 : zshape[42]? = some (1, 8, 0, [none, none, none, none, none, some (.ref 43), some (.ref 44), some (.ref 45), some (.ref 46), some (.ref 47)]) := by decide +kernel
theorem hs_43 : zshape[43]? = some (0, 0, 10, []) := by decide +kernel
theorem hs_44 : zshape[44]? = some (0, 0, 10, []) := by decide +kernel
theorem hs_45 : zshape[45]? = some (0, 0, 10, []) := by decide +kernel
theorem hs_46 : zshape[46]? = some (0, 0, 10, []) := by decide +kernel
theorem hs_47 : zshape[47]? = some (0, 0, 100, []) := by decide +kernel
theorem hs_48 : zshape[48]? = some (1, 8, 0, [none, none, none, none, none, some (.ref 49), some (.ref 50), some (.ref 51), some (.ref 52), some (.ref 53)]) := by decide +kernel
theorem hs_49 : zshape[49]? = some (0, 0, 10, []) := by decide +kernel
theorem hs_50 : zshape[50]? = some (0, 0, 10, []) := by decide +kernel
theorem hs_51 : zshape[51]? = some (0, 0, 10, []) := by decide +kernel
theorem hs_52 : zshape[52]? = some (0, 0, 10, []) := by decide +kernel
theorem hs_53 : zshape[53]? = some (0, 0, 100, []) := by decide +kernel
theorem hs_54 : zshape[54]? = some (1, 8, 0, [none, none, none, none, none, some (.ref 55), some (.ref 56), some (.ref 57), some (.ref 58), some (.ref 59)]) := by decide +kernel
theorem hs_55 : zshape[55]? = some (0, 0, 10, []) := by decide +kernel
theorem hs_56 : zshape[56]? = some (0, 0, 10, []) := by decide +kernel
theorem hs_57 : zshape[57]? = some (0, 0, 10, []) := by decide +kernel
theorem hs_58 : zshape[58]? = some (0, 0, 10, []) := by decide +kernel
theorem hs_59 : zshape[59]? = some (0, 0, 100, []) := by decide +kernel
theorem hs_60 : zshape[60]? = some (1, 8, 0, [none, none, none, none, none, some (.ref 61), some (.ref 62), some (.ref 63), some (.ref 64), some (.ref 65)]) := by decide +kernel
theorem hs_61 : zshape[61]? = some (0, 0, 10, []) := by decide +kernel
theorem hs_62 : zshape[62]? = some (0, 0, 10, []) := by decide +kernel
theorem hs_63 : zshape[63]? = some (0, 0, 10, []) := by decide +kernel
theorem hs_64 : zshape[64]? = some (0, 0, 10, []) := by decide +kernel
theorem hs_65 : zshape[65]? = some (0, 0, 100, []) := by decide +kernel
theorem hs_66 : zshape[66]? = some (1, 8, 0, [none, none, none, none, none, some (.ref 67), some (.ref 68), some (.ref 69), some (.ref 70), some (.ref 71)]) := by decide +kernel
theorem hs_67 : zshape[67]? = some (0, 0, 10, []) := by decide +kernel
theorem hs_68 : zshape[68]? = some (0, 0, 10, []) := by decide +kernel
theorem hs_69 : zshape[69]? = some (0, 0, 10, []) := by decide +kernel
theorem hs_70 : zshape[70]? = some (0, 0, 10, []) := by decide +kernel
theorem hs_71 : zshape[71]? = some (0, 0, 100, []) := by decide +kernel
theorem hs_72 : zshape[72]? = some (1, 8, 0, [none, none, none, none, none, some (.ref 73), some (.ref 74), some (.ref 75), some (.ref 76), some (.ref 77)]) := by decide +kernel
theorem hs_73 : zshape[73]? = some (0, 0, 10, []) := by decide +kernel
theorem hs_74 : zshape[74]? = some (0, 0, 10, []) := by decide +kernel
theorem hs_75 : zshape[75]? = some (0, 0, 10, []) := by decide +kernel
theorem hs_76 : zshape[76]? = some (0, 0, 10, []) := by decide +kernel
theorem hs_77 : zshape[77]? = some (0, 0, 100, []) := by decide +kernel
theorem hs_78 : zshape[78]? = some (1, 8, 0, [none, none, none, none, none, some (.ref 79), some (.ref 80), some (.ref 81), some (.ref 82), some (.ref 83)]) := by decide +kernel
theorem hs_79 : zshape[79]? = some (0, 0, 10, []) := by decide +kernel
theorem hs_80 : zshape[80]? = some (0, 0, 10, []) := by decide +kernel
theorem hs_81 : zshape[81]? = some (0, 0, 10, []) := by decide +kernel
theorem hs_82 : zshape[82]? = some (0, 0, 10, []) := by decide +kernel
theorem hs_83 : zshape[83]? = some (0, 0, 100, []) := by decide +kernel
theorem hs_84 : zshape[84]? = some (1, 8, 0, [none, none, none, none, none, some (.ref 85), some (.ref 86), some (.ref 87), some (.ref 88), some (.ref 89)]) := by decide +kernel
theorem hs_85 : zshape[85]? = some (0, 0, 10, []) := by decide +kernel
theorem hs_86 : zshape[86]? = some (0, 0, 10, []) := by decide +kernel
theorem hs_87 : zshape[87]? = some (0, 0, 10, []) := by decide +kernel
theorem hs_88 : zshape[88]? = some (0, 0, 10, []) := by decide +kernel
theorem hs_89 : zshape[89]? = some (0, 0, 100, []) := by decide +kernel
theorem hs_90 : zshape[90]? = some (1, 9, 0, [none, none, none, some (.ref 91), some (.ref 92), some (.ref 93), some (.ref 95), some (.ref 97), some (.ref 99), some (.ref 101), some (.ref 103), some (.ref 105)]) := by decide +kernel
theorem hs_91 : zshape[91]? = some (0, 0, 100, []) := by decide +kernel
theorem hs_92 : zshape[92]? = some (1, 52, 0, [some (.ref 107), some (.ref 113), some (.ref 119), some (.ref 125), some (.ref 131), some (.ref 137), some (.ref 143), some (.ref 149), some (.ref 155), some (.ref 161), some (.ref 167), some (.ref 173)]) := by decide +kernel
theorem hs_93 : zshape[93]? = some (1, 7, 0, [some (.int (iI 18)), some (.ref 94), some (.int (iI 16)), none]) := by decide +kernel
theorem hs_94 : zshape[94]? = some (0, 0, 288, []) := by decide +kernel
theorem hs_95 : zshape[95]? = some (1, 7, 0, [some (.int (iI 2)), some (.ref 96), some (.int (iI 6)), none]) := by decide +kernel
theorem hs_96 : zshape[96]? = some (0, 0, 12, []) := by decide +kernel
theorem hs_97 : zshape[97]? = some (1, 7, 0, [some (.int (iI 6)), some (.ref 98), some (.int (iI 24)), none]) := by decide +kernel
theorem hs_98 : zshape[98]? = some (0, 0, 144, []) := by decide +kernel
theorem hs_99 : zshape[99]? = some (1, 7, 0, [some (.int (iI 3)), some (.ref 100), some (.int (iI 5)), none]) := by decide +kernel
theorem hs_100 : zshape[100]? = some (0, 0, 15, []) := by decide +kernel
theorem hs_101 : zshape[101]? = some (1, 7, 0, [some (.int (iI 7)), some (.ref 102), some (.int (iI 16)), none]) := by decide +kernel
theorem hs_102 : zshape[102]? = some (0, 0, 112, []) := by decide +kernel
theorem hs_103 : zshape[103]? = some (1, 7, 0, [some (.int (iI 3)), some (.ref 104), some (.int (iI 8)), none]) := by decide +kernel
theorem hs_104 : zshape[104]? = some (0, 0, 24, []) := by decide +kernel
theorem hs_105 : zshape[105]? = some (1, 7, 0, [some (.int (iI 3)), some (.ref 106), some (.int (iI 16)), none]) := by decide +kernel
theorem hs_106 : zshape[106]? = some (0, 0, 48, []) := by decide +kernel
theorem hs_107 : zshape[107]? = some (1, 8, 0, [none, none, none, none, none, some (.ref 108), some (.ref 109), some (.ref 110), some (.ref 111), some (.ref 112)]) := by decide +kernel
theorem hs_108 : zshape[108]? = some (0, 0, 10, []) := by decide +kernel
theorem hs_109 : zshape[109]? = some (0, 0, 10, []) := by decide +kernel
theorem hs_110 : zshape[110]? = some (0, 0, 10, []) := by decide +kernel
theorem hs_111 : zshape[111]? = some (0, 0, 10, []) := by decide +kernel
theorem hs_112 : zshape[112]? = some (0, 0, 100, []) := by decide +kernel
theorem hs_113 : zshape[113]? = some (1, 8, 0, [none, none, none, none, none, some (.ref 114), some (.ref 115), some (.ref 116), some (.ref 117), some (.ref 118)]) := by decide +kernel
theorem hs_114 : zshape[114]? = some (0, 0, 10, []) := by decide +kernel
theorem hs_115 : zshape[115]? = some (0, 0, 10, []) := by decide +kernel
theorem hs_116 : zshape[116]? = some (0, 0, 10, []) := by decide +kernel
theorem hs_117 : zshape[117]? = some (0, 0, 10, []) := by decide +kernel
theorem hs_118 : zshape[118]? = some (0, 0, 100, []) := by decide +kernel
theorem hs_119 : zshape[119]? = some (1, 8, 0, [none, none, none, none, none, some (.ref 120), some (.ref 121), some (.ref 122), some (.ref 123), some (.ref 124)]) := by decide +kernel
theorem hs_120 : zshape[120]? = some (0, 0, 10, []) := by decide +kernel
theorem hs_121 : zshape[121]? = some (0, 0, 10, []) := by decide +kernel
theorem hs_122 : zshape[122]? = some (0, 0, 10, []) := by decide +kernel
theorem hs_123 : zshape[123]? = some (0, 0, 10, []) := by decide +kernel
theorem hs_124 : zshape[124]? = some (0, 0, 100, []) := by decide +kernel
theorem hs_125 : zshape[125]? = some (1, 8, 0, [none, none, none, none, none, some (.ref 126), some (.ref 127), some (.ref 128), some (.ref 129), some (.ref 130)]) := by decide +kernel
theorem hs_126 : zshape[126]? = some (0, 0, 10, []) := by decide +kernel
theorem hs_127 : zshape[127]? = some (0, 0, 10, []) := by decide +kernel
theorem hs_128 : zshape[128]? = some (0, 0, 10, []) := by decide +kernel
theorem hs_129 : zshape[129]? = some (0, 0, 10, []) := by decide +kernel
theorem hs_130 : zshape[130]? = some (0, 0, 100, []) := by decide +kernel
theorem hs_131 : zshape[131]? = some (1, 8, 0, [none, none, none, none, none, some (.ref 132), some (.ref 133), some (.ref 134), some (.ref 135), some (.ref 136)]) := by decide +kernel
theorem hs_132 : zshape[132]? = some (0, 0, 10, []) := by decide +kernel
theorem hs_133 : zshape[133]? = some (0, 0, 10, []) := by decide +kernel
theorem hs_134 : zshape[134]? = some (0, 0, 10, []) := by decide +kernel
theorem hs_135 : zshape[135]? = some (0, 0, 10, []) := by decide +kernel
theorem hs_136 : zshape[136]? = some (0, 0, 100, []) := by decide +kernel
theorem hs_137 : zshape[137]? = some (1, 8, 0, [none, none, none, none, none, some (.ref 138), some (.ref 139), some (.ref 140), some (.ref 141), some (.ref 142)]) := by decide +kernel
theorem hs_138 : zshape[138]? = some (0, 0, 10, []) := by decide +kernel
theorem hs_139 : zshape[139]? = some (0, 0, 10, []) := by decide +kernel
theorem hs_140 : zshape[140]? = some (0, 0, 10, []) := by decide +kernel
theorem hs_141 : zshape[141]? = some (0, 0, 10, []) := by decide +kernel
theorem hs_142 : zshape[142]? = some (0, 0, 100, []) := by decide +kernel
theorem hs_143 : zshape[143]? = some (1, 8, 0, [none, none, none, none, none, some (.ref 144), some (.ref 145), some (.ref 146), some (.ref 147), some (.ref 148)]) := by decide +kernel
theorem hs_144 : zshape[144]? = some (0, 0, 10, []) := by decide +kernel
theorem hs_145 : zshape[145]? = some (0, 0, 10, []) := by decide +kernel
theorem hs_146 : zshape[146]? = some (0, 0, 10, []) := by decide +kernel
theorem hs_147 : zshape[147]? = some (0, 0, 10, []) := by decide +kernel
theorem hs_148 : zshape[148]? = some (0, 0, 100, []) := by decide +kernel
theorem hs_149 : zshape[149]? = some (1, 8, 0, [none, none, none, none, none, some (.ref 150), some (.ref 151), some (.ref 152), some (.ref 153), some (.ref 154)]) := by decide +kernel
theorem hs_150 : zshape[150]? = some (0, 0, 10, []) := by decide +kernel
theorem hs_151 : zshape[151]? = some (0, 0, 10, []) := by decide +kernel
theorem hs_152 : zshape[152]? = some (0, 0, 10, []) := by decide +kernel
theorem hs_153 : zshape[153]? = some (0, 0, 10, []) := by decide +kernel
theorem hs_154 : zshape[154]? = some (0, 0, 100, []) := by decide +kernel
theorem hs_155 : zshape[155]? = some (1, 8, 0, [none, none, none, none, none, some (.ref 156), some (.ref 157), some (.ref 158), some (.ref 159), some (.ref 160)]) := by decide +kernel
theorem hs_156 : zshape[156]? = some (0, 0, 10, []) := by decide +kernel
theorem hs_157 : zshape[157]? = some (0, 0, 10, []) := by decide +kernel
theorem hs_158 : zshape[158]? = some (0, 0, 10, []) := by decide +kernel
theorem hs_159 : zshape[159]? = some (0, 0, 10, []) := by decide +kernel
theorem hs_160 : zshape[160]? = some (0, 0, 100, []) := by decide +kernel
theorem hs_161 : zshape[161]? = some (1, 8, 0, [none, none, none, none, none, some (.ref 162), some (.ref 163), some (.ref 164), some (.ref 165), some (.ref 166)]) := by decide +kernel
theorem hs_162 : zshape[162]? = some (0, 0, 10, []) := by decide +kernel
theorem hs_163 : zshape[163]? = some (0, 0, 10, []) := by decide +kernel
theorem hs_164 : zshape[164]? = some (0, 0, 10, []) := by decide +kernel
theorem hs_165 : zshape[165]? = some (0, 0, 10, []) := by decide +kernel
theorem hs_166 : zshape[166]? = some (0, 0, 100, []) := by decide +kernel
theorem hs_167 : zshape[167]? = some (1, 8, 0, [none, none, none, none, none, some (.ref 168), some (.ref 169), some (.ref 170), some (.ref 171), some (.ref 172)]) := by decide +kernel
theorem hs_168 : zshape[168]? = some (0, 0, 10, []) := by decide +kernel
theorem hs_169 : zshape[169]? = some (0, 0, 10, []) := by decide +kernel
theorem hs_170 : zshape[170]? = some (0, 0, 10, []) := by decide +kernel
theorem hs_171 : zshape[171]? = some (0, 0, 10, []) := by decide +kernel
theorem hs_172 : zshape[172]? = some (0, 0, 100, []) := by decide +kernel
theorem hs_173 : zshape[173]? = some (1, 8, 0, [none, none, none, none, none, some (.ref 174), some (.ref 175), some (.ref 176), some (.ref 177), some (.ref 178)]) := by decide +kernel
theorem hs_174 : zshape[174]? = some (0, 0, 10, []) := by decide +kernel
theorem hs_175 : zshape[175]? = some (0, 0, 10, []) := by decide +kernel
theorem hs_176 : zshape[176]? = some (0, 0, 10, []) := by decide +kernel
theorem hs_177 : zshape[177]? = some (0, 0, 10, []) := by decide +kernel
theorem hs_178 : zshape[178]? = some (0, 0, 100, []) := by decide +kernel
theorem hs_179 : zshape[179]? = some (3, 4, 0, [some (.ref 180), none, some (.ref 181), some (.ref 182), some (.ref 183), some (.ref 184), none, none, none, some (.ref 185)]) := by decide +kernel
theorem hs_180 : zshape[180]? = some (0, 1, 300, []) := by decide +kernel
theorem hs_181 : zshape[181]? = some (1, 51, 0, [some (.ref 10000), some (.ref 10001), some (.ref 10002), some (.ref 10003), some (.ref 10004), some (.ref 10005), some (.ref 10006), some (.ref 10007), some (.ref 10008), some (.ref 10009), some (.ref 10010), some (.ref 10011), some (.ref 10012), some (.ref 10013), some (.ref 10014), some (.ref 10015), some (.ref 10016), some (.ref 10017), some (.ref 10018), some (.ref 10019), some (.ref 10020), some (.ref 10021), some (.ref 10022), some (.ref 10023), some (.ref 10024), some (.ref 10025), some (.ref 10026), some (.ref 10027), some (.ref 10028), some (.ref 10029), some (.ref 10030), some (.ref 10031)]) := by decide +kernel
theorem hs_182 : zshape[182]? = some (2, 51, 301, []) := by decide +kernel
theorem hs_183 : zshape[183]? = some (0, 0, 301, []) := by decide +kernel
theorem hs_184 : zshape[184]? = some (0, 0, 301, []) := by decide +kernel
theorem hs_185 : zshape[185]? = some (1, 8, 0, [none, none, none, none, none, some (.ref 186), some (.ref 187), some (.ref 188), some (.ref 189), some (.ref 190)]) := by decide +kernel
theorem hs_186 : zshape[186]? = some (0, 0, 10, []) := by decide +kernel
theorem hs_187 : zshape[187]? = some (0, 0, 10, []) := by decide +kernel
theorem hs_188 : zshape[188]? = some (0, 0, 10, []) := by decide +kernel
theorem hs_189 : zshape[189]? = some (0, 0, 10, []) := by decide +kernel
theorem hs_190 : zshape[190]? = some (0, 0, 100, []) := by decide +kernel
theorem hs_191 : zshape[191]? = some (1, 5, 0, [some (.ref 1), some (.ref 192), some (.ref 193), some (.ref 194), some (.ref 195)]) := by decide +kernel
theorem hs_192 : zshape[192]? = some (0, 0, 400, []) := by decide +kernel
theorem hs_193 : zshape[193]? = some (0, 0, 100, []) := by decide +kernel
theorem hs_194 : zshape[194]? = some (0, 0, 100, []) := by decide +kernel
theorem hs_195 : zshape[195]? = some (1, 50, 0, [some (.ref 196), some (.ref 197), some (.ref 198), some (.ref 199), some (.ref 200), some (.ref 201)]) := by decide +kernel
theorem hs_196 : zshape[196]? = some (0, 0, 100, []) := by decide +kernel
theorem hs_197 : zshape[197]? = some (0, 0, 100, []) := by decide +kernel
theorem hs_198 : zshape[198]? = some (0, 0, 100, []) := by decide +kernel
theorem hs_199 : zshape[199]? = some (0, 0, 100, []) := by decide +kernel
theorem hs_200 : zshape[200]? = some (0, 0, 100, []) := by decide +kernel
theorem hs_201 : zshape[201]? = some (0, 0, 100, []) := by decide +kernel
theorem hs_202 : zshape[202]? = some (1, 1, 0, [some (.ref 1), some (.ref 191), none, none, some (.ref 203), none, none, none, none, some (.ref 204), some (.ref 205)]) := by decide +kernel
theorem hs_203 : zshape[203]? = some (0, 0, 30, []) := by decide +kernel
theorem hs_204 : zshape[204]? = some (0, 0, 24, []) := by decide +kernel
theorem hs_205 : zshape[205]? = some (0, 0, 24, []) := by decide +kernel
theorem hs_206 : zshape[206]? = some (1, 3, 0, [some (.ref 1), some (.ref 207)]) := by decide +kernel
theorem hs_207 : zshape[207]? = some (0, 0, 256, []) := by decide +kernel
theorem hs_208 : zshape[208]? = some (1, 6, 0, [some (.ref 1), some (.ref 191), some (.ref 206), some (.ref 209)]) := by decide +kernel
theorem hs_209 : zshape[209]? = some (1, 50, 0, [some (.ref 210), some (.ref 211), some (.ref 212), some (.ref 213), some (.ref 214), some (.ref 215), some (.ref 216), some (.ref 217), some (.ref 218), some (.ref 219), some (.ref 220), some (.ref 221), some (.ref 222), some (.ref 223), some (.ref 224), some (.ref 225)]) := by decide +kernel
theorem hs_210 : zshape[210]? = some (0, 0, 100, []) := by decide +kernel
theorem hs_211 : zshape[211]? = some (0, 0, 100, []) := by decide +kernel
theorem hs_212 : zshape[212]? = some (0, 0, 100, []) := by decide +kernel
theorem hs_213 : zshape[213]? = some (0, 0, 100, []) := by decide +kernel
theorem hs_214 : zshape[214]? = some (0, 0, 100, []) := by decide +kernel
theorem hs_215 : zshape[215]? = some (0, 0, 100, []) := by decide +kernel
theorem hs_216 : zshape[216]? = some (0, 0, 100, []) := by decide +kernel
theorem hs_217 : zshape[217]? = some (0, 0, 100, []) := by decide +kernel
theorem hs_218 : zshape[218]? = some (0, 0, 100, []) := by decide +kernel
theorem hs_219 : zshape[219]? = some (0, 0, 100, []) := by decide +kernel
theorem hs_220 : zshape[220]? = some (0, 0, 100, []) := by decide +kernel
theorem hs_221 : zshape[221]? = some (0, 0, 100, []) := by decide +kernel
theorem hs_222 : zshape[222]? = some (0, 0, 100, []) := by decide +kernel
theorem hs_223 : zshape[223]? = some (0, 0, 100, []) := by decide +kernel
theorem hs_224 : zshape[224]? = some (0, 0, 100, []) := by decide +kernel
theorem hs_225 : zshape[225]? = some (0, 0, 100, []) := by decide +kernel
theorem hs_226 : zshape[226]? = some (1, 2, 0, [some (.ref 1), some (.ref 191), some (.ref 206), some (.ref 227), some (.ref 228), some (.ref 229), some (.ref 230), some (.ref 232), none]) := by decide +kernel
theorem hs_227 : zshape[227]? = some (0, 0, 6100, []) := by decide +kernel
theorem hs_228 : zshape[228]? = some (0, 0, 100, []) := by decide +kernel
theorem hs_229 : zshape[229]? = some (0, 0, 100, []) := by decide +kernel
theorem hs_230 : zshape[230]? = some (1, 7, 0, [some (.int (iI 2)), some (.ref 231), some (.int (iI 60)), none]) := by decide +kernel
theorem hs_231 : zshape[231]? = some (0, 0, 120, []) := by decide +kernel
theorem hs_232 : zshape[232]? = some (1, 7, 0, [some (.int (iI 2)), some (.ref 233), some (.int (iI 60)), none]) := by decide +kernel
theorem hs_233 : zshape[233]? = some (0, 0, 120, []) := by decide +kernel
theorem hs_234 : zshape[234]? = some (1, 0, 0, [some (.ref 1), some (.ref 235), some (.ref 236), some (.ref 237), some (.ref 242), some (.ref 243), some (.ref 244), some (.ref 245), none, none, none, none, none, none]) := by decide +kernel
theorem hs_235 : zshape[235]? = some (0, 0, 4, []) := by decide +kernel
theorem hs_236 : zshape[236]? = some (0, 0, 4, []) := by decide +kernel
theorem hs_237 : zshape[237]? = some (1, 50, 0, [some (.ref 238), some (.ref 239), some (.ref 240), some (.ref 241)]) := by decide +kernel
theorem hs_238 : zshape[238]? = some (0, 0, 40, []) := by decide +kernel
theorem hs_239 : zshape[239]? = some (0, 0, 40, []) := by decide +kernel
theorem hs_240 : zshape[240]? = some (0, 0, 40, []) := by decide +kernel
theorem hs_241 : zshape[241]? = some (0, 0, 40, []) := by decide +kernel
theorem hs_242 : zshape[242]? = some (0, 0, 4, []) := by decide +kernel
theorem hs_243 : zshape[243]? = some (0, 0, 4, []) := by decide +kernel
theorem hs_244 : zshape[244]? = some (0, 0, 4, []) := by decide +kernel
theorem hs_245 : zshape[245]? = some (0, 0, 30, []) := by decide +kernel
theorem hs_246 : zshape[246]? = some (1, 11, 0, [some (.ref 247), some (.ref 248), none, some (.ref 249), none, some (.ref 250), some (.ref 251), none, none, some (.ref 252), some (.ref 253), some (.ref 254), none, none, none, none, none, none, none, none, none, none, some (.ref 255), some (.ref 256), some (.ref 257), some (.ref 258), some (.ref 259), some (.ref 260), some (.ref 261), some (.ref 262), some (.ref 263), some (.ref 264), some (.ref 265), some (.ref 266), some (.ref 267), none, none, none]) := by decide +kernel
theorem hs_247 : zshape[247]? = some (0, 0, 2737, []) := by decide +kernel
theorem hs_248 : zshape[248]? = some (0, 0, 2737, []) := by decide +kernel
theorem hs_249 : zshape[249]? = some (0, 0, 300, []) := by decide +kernel
theorem hs_250 : zshape[250]? = some (0, 0, 120, []) := by decide +kernel
theorem hs_251 : zshape[251]? = some (0, 0, 120, []) := by decide +kernel
theorem hs_252 : zshape[252]? = some (0, 0, 100, []) := by decide +kernel
theorem hs_253 : zshape[253]? = some (0, 0, 100, []) := by decide +kernel
theorem hs_254 : zshape[254]? = some (0, 0, 600, []) := by decide +kernel
theorem hs_255 : zshape[255]? = some (0, 0, 40, []) := by decide +kernel
theorem hs_256 : zshape[256]? = some (0, 0, 120, []) := by decide +kernel
theorem hs_257 : zshape[257]? = some (1, 53, 0, [some (.ref 10100), some (.ref 10101), some (.ref 10102), some (.ref 10103), some (.ref 10104), some (.ref 10105), some (.ref 10106)]) := by decide +kernel
theorem hs_258 : zshape[258]? = some (0, 0, 6, []) := by decide +kernel
theorem hs_259 : zshape[259]? = some (0, 0, 120, []) := by decide +kernel
theorem hs_260 : zshape[260]? = some (0, 0, 6100, []) := by decide +kernel
theorem hs_261 : zshape[261]? = some (0, 0, 4, []) := by decide +kernel
theorem hs_262 : zshape[262]? = some (0, 0, 4, []) := by decide +kernel
theorem hs_263 : zshape[263]? = some (0, 0, 160, []) := by decide +kernel
theorem hs_264 : zshape[264]? = some (0, 0, 4, []) := by decide +kernel
theorem hs_265 : zshape[265]? = some (0, 0, 4, []) := by decide +kernel
theorem hs_266 : zshape[266]? = some (0, 0, 4, []) := by decide +kernel
theorem hs_267 : zshape[267]? = some (0, 0, 30, []) := by decide +kernel
