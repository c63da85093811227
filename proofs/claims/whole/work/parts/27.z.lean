/-! Tables, versions, words, switches. Own text, by program where rows repeat. -/
def zArr (a n : Nat) : Prop := zshape[a]? = some (0, 0, n, []) ∧ a < 10000
def zTab (a ca w mx : Nat) : Prop := zshape[a]? = some (1, 7, 0, [some (.int (iI w)), some (.ref ca), some (.int (iI mx)), none]) ∧ zArr ca (mx * w)
def zVer (a : Nat) : Prop := zshape[a]? = some (1, 8, 0, [none, none, none, none, none, some (.ref (a + 1)), some (.ref (a + 2)), some (.ref (a + 3)), some (.ref (a + 4)), some (.ref (a + 5))]) ∧ zshape[a + 1]? = some (0, 0, 10, []) ∧ zshape[a + 2]? = some (0, 0, 10, []) ∧ zshape[a + 3]? = some (0, 0, 10, []) ∧ zshape[a + 4]? = some (0, 0, 10, []) ∧ zshape[a + 5]? = some (0, 0, 100, []) ∧ a < 9000
theorem zV_0 {a : Nat} (h : zVer a) : a < 10000 := by have := h.2.2.2.2.2.2; omega
theorem zV_1 {a : Nat} (h : zVer a) : a + 1 < 10000 := by have := h.2.2.2.2.2.2; omega
theorem zV_2 {a : Nat} (h : zVer a) : a + 2 < 10000 := by have := h.2.2.2.2.2.2; omega
theorem zV_3 {a : Nat} (h : zVer a) : a + 3 < 10000 := by have := h.2.2.2.2.2.2; omega
theorem zV_4 {a : Nat} (h : zVer a) : a + 4 < 10000 := by have := h.2.2.2.2.2.2; omega
theorem zV_5 {a : Nat} (h : zVer a) : a + 5 < 10000 := by have := h.2.2.2.2.2.2; omega
theorem nat_of {j : Int} {n : Nat} (h : 0 ≤ j ∧ j < n) : ∃ k : Nat, k < n ∧ j.toNat = k ∧ j = k := ⟨j.toNat, by omega, rfl, by omega⟩
theorem zTab_4 : zTab 4 5 18 16 := ⟨hs_4, hs_5, by decide⟩
theorem zTab_6 : zTab 6 7 2 6 := ⟨hs_6, hs_7, by decide⟩
theorem zTab_8 : zTab 8 9 6 24 := ⟨hs_8, hs_9, by decide⟩
theorem zTab_10 : zTab 10 11 3 5 := ⟨hs_10, hs_11, by decide⟩
theorem zTab_12 : zTab 12 13 7 16 := ⟨hs_12, hs_13, by decide⟩
theorem zTab_14 : zTab 14 15 3 8 := ⟨hs_14, hs_15, by decide⟩
theorem zTab_16 : zTab 16 17 3 16 := ⟨hs_16, hs_17, by decide⟩
theorem zTab_93 : zTab 93 94 18 16 := ⟨hs_93, hs_94, by decide⟩
theorem zTab_95 : zTab 95 96 2 6 := ⟨hs_95, hs_96, by decide⟩
theorem zTab_97 : zTab 97 98 6 24 := ⟨hs_97, hs_98, by decide⟩
theorem zTab_99 : zTab 99 100 3 5 := ⟨hs_99, hs_100, by decide⟩
theorem zTab_101 : zTab 101 102 7 16 := ⟨hs_101, hs_102, by decide⟩
theorem zTab_103 : zTab 103 104 3 8 := ⟨hs_103, hs_104, by decide⟩
theorem zTab_105 : zTab 105 106 3 16 := ⟨hs_105, hs_106, by decide⟩
theorem zTab_230 : zTab 230 231 2 60 := ⟨hs_230, hs_231, by decide⟩
theorem zTab_232 : zTab 232 233 2 60 := ⟨hs_232, hs_233, by decide⟩
theorem zVer_0 {j : Int} (h : 0 ≤ j ∧ j < 12) : zVer (18 + 6 * j.toNat) := by
  obtain ⟨k, hk, e, -⟩ := nat_of (n := 12) h
  rw [e]
  match k, hk with
  | 0, _ => exact ⟨hs_18, hs_19, hs_20, hs_21, hs_22, hs_23, by decide⟩
  | 1, _ => exact ⟨hs_24, hs_25, hs_26, hs_27, hs_28, hs_29, by decide⟩
  | 2, _ => exact ⟨hs_30, hs_31, hs_32, hs_33, hs_34, hs_35, by decide⟩
  | 3, _ => exact ⟨hs_36, hs_37, hs_38, hs_39, hs_40, hs_41, by decide⟩
  | 4, _ => exact ⟨hs_42, hs_43, hs_44, hs_45, hs_46, hs_47, by decide⟩
  | 5, _ => exact ⟨hs_48, hs_49, hs_50, hs_51, hs_52, hs_53, by decide⟩
  | 6, _ => exact ⟨hs_54, hs_55, hs_56, hs_57, hs_58, hs_59, by decide⟩
  | 7, _ => exact ⟨hs_60, hs_61, hs_62, hs_63, hs_64, hs_65, by decide⟩
  | 8, _ => exact ⟨hs_66, hs_67, hs_68, hs_69, hs_70, hs_71, by decide⟩
  | 9, _ => exact ⟨hs_72, hs_73, hs_74, hs_75, hs_76, hs_77, by decide⟩
  | 10, _ => exact ⟨hs_78, hs_79, hs_80, hs_81, hs_82, hs_83, by decide⟩
  | 11, _ => exact ⟨hs_84, hs_85, hs_86, hs_87, hs_88, hs_89, by decide⟩
  | n + 12, h => omega
theorem zVer_1 {j : Int} (h : 0 ≤ j ∧ j < 12) : zVer (107 + 6 * j.toNat) := by
  obtain ⟨k, hk, e, -⟩ := nat_of (n := 12) h
  rw [e]
  match k, hk with
  | 0, _ => exact ⟨hs_107, hs_108, hs_109, hs_110, hs_111, hs_112, by decide⟩
  | 1, _ => exact ⟨hs_113, hs_114, hs_115, hs_116, hs_117, hs_118, by decide⟩
  | 2, _ => exact ⟨hs_119, hs_120, hs_121, hs_122, hs_123, hs_124, by decide⟩
  | 3, _ => exact ⟨hs_125, hs_126, hs_127, hs_128, hs_129, hs_130, by decide⟩
  | 4, _ => exact ⟨hs_131, hs_132, hs_133, hs_134, hs_135, hs_136, by decide⟩
  | 5, _ => exact ⟨hs_137, hs_138, hs_139, hs_140, hs_141, hs_142, by decide⟩
  | 6, _ => exact ⟨hs_143, hs_144, hs_145, hs_146, hs_147, hs_148, by decide⟩
  | 7, _ => exact ⟨hs_149, hs_150, hs_151, hs_152, hs_153, hs_154, by decide⟩
  | 8, _ => exact ⟨hs_155, hs_156, hs_157, hs_158, hs_159, hs_160, by decide⟩
  | 9, _ => exact ⟨hs_161, hs_162, hs_163, hs_164, hs_165, hs_166, by decide⟩
  | 10, _ => exact ⟨hs_167, hs_168, hs_169, hs_170, hs_171, hs_172, by decide⟩
  | 11, _ => exact ⟨hs_173, hs_174, hs_175, hs_176, hs_177, hs_178, by decide⟩
  | n + 12, h => omega
theorem zVer_d : zVer 185 := ⟨hs_185, hs_186, hs_187, hs_188, hs_189, hs_190, by decide⟩
theorem zArr_195 {j : Int} (h : 0 ≤ j ∧ j < 6) : zArr (196 + j.toNat) 100 := by
  obtain ⟨k, hk, e, -⟩ := nat_of (n := 6) h
  rw [e]
  match k, hk with
  | 0, _ => exact ⟨hs_196, by decide⟩
  | 1, _ => exact ⟨hs_197, by decide⟩
  | 2, _ => exact ⟨hs_198, by decide⟩
  | 3, _ => exact ⟨hs_199, by decide⟩
  | 4, _ => exact ⟨hs_200, by decide⟩
  | 5, _ => exact ⟨hs_201, by decide⟩
  | n + 6, h => omega
theorem zArr_209 {j : Int} (h : 0 ≤ j ∧ j < 16) : zArr (210 + j.toNat) 100 := by
  obtain ⟨k, hk, e, -⟩ := nat_of (n := 16) h
  rw [e]
  match k, hk with
  | 0, _ => exact ⟨hs_210, by decide⟩
  | 1, _ => exact ⟨hs_211, by decide⟩
  | 2, _ => exact ⟨hs_212, by decide⟩
  | 3, _ => exact ⟨hs_213, by decide⟩
  | 4, _ => exact ⟨hs_214, by decide⟩
  | 5, _ => exact ⟨hs_215, by decide⟩
  | 6, _ => exact ⟨hs_216, by decide⟩
  | 7, _ => exact ⟨hs_217, by decide⟩
  | 8, _ => exact ⟨hs_218, by decide⟩
  | 9, _ => exact ⟨hs_219, by decide⟩
  | 10, _ => exact ⟨hs_220, by decide⟩
  | 11, _ => exact ⟨hs_221, by decide⟩
  | 12, _ => exact ⟨hs_222, by decide⟩
  | 13, _ => exact ⟨hs_223, by decide⟩
  | 14, _ => exact ⟨hs_224, by decide⟩
  | 15, _ => exact ⟨hs_225, by decide⟩
  | n + 16, h => omega
theorem zArr_237 {j : Int} (h : 0 ≤ j ∧ j < 4) : zArr (238 + j.toNat) 40 := by
  obtain ⟨k, hk, e, -⟩ := nat_of (n := 4) h
  rw [e]
  match k, hk with
  | 0, _ => exact ⟨hs_238, by decide⟩
  | 1, _ => exact ⟨hs_239, by decide⟩
  | 2, _ => exact ⟨hs_240, by decide⟩
  | 3, _ => exact ⟨hs_241, by decide⟩
  | n + 4, h => omega
theorem ar_3 : ∀ j : Int, 0 ≤ j ∧ j < 12 → ([some (.ref 18), some (.ref 24), some (.ref 30), some (.ref 36), some (.ref 42), some (.ref 48), some (.ref 54), some (.ref 60), some (.ref 66), some (.ref 72), some (.ref 78), some (.ref 84)] : List (Option Value))[j.toNat]? = some (some (.ref (18 + 6 * j.toNat))) := by
  intro j h
  obtain ⟨k, hk, e, -⟩ := nat_of (n := 12) h
  rw [e]
  match k, hk with
  | 0, _ | 1, _ | 2, _ | 3, _ | 4, _ | 5, _ | 6, _ | 7, _ | 8, _ | 9, _ | 10, _ | 11, _ => rfl
  | n + 12, h => omega
theorem ar_92 : ∀ j : Int, 0 ≤ j ∧ j < 12 → ([some (.ref 107), some (.ref 113), some (.ref 119), some (.ref 125), some (.ref 131), some (.ref 137), some (.ref 143), some (.ref 149), some (.ref 155), some (.ref 161), some (.ref 167), some (.ref 173)] : List (Option Value))[j.toNat]? = some (some (.ref (107 + 6 * j.toNat))) := by
  intro j h
  obtain ⟨k, hk, e, -⟩ := nat_of (n := 12) h
  rw [e]
  match k, hk with
  | 0, _ | 1, _ | 2, _ | 3, _ | 4, _ | 5, _ | 6, _ | 7, _ | 8, _ | 9, _ | 10, _ | 11, _ => rfl
  | n + 12, h => omega
theorem ar_195 : ∀ j : Int, 0 ≤ j ∧ j < 6 → ([some (.ref 196), some (.ref 197), some (.ref 198), some (.ref 199), some (.ref 200), some (.ref 201)] : List (Option Value))[j.toNat]? = some (some (.ref (196 + j.toNat))) := by
  intro j h
  obtain ⟨k, hk, e, -⟩ := nat_of (n := 6) h
  rw [e]
  match k, hk with
  | 0, _ | 1, _ | 2, _ | 3, _ | 4, _ | 5, _ => rfl
  | n + 6, h => omega
theorem ar_209 : ∀ j : Int, 0 ≤ j ∧ j < 16 → ([some (.ref 210), some (.ref 211), some (.ref 212), some (.ref 213), some (.ref 214), some (.ref 215), some (.ref 216), some (.ref 217), some (.ref 218), some (.ref 219), some (.ref 220), some (.ref 221), some (.ref 222), some (.ref 223), some (.ref 224), some (.ref 225)] : List (Option Value))[j.toNat]? = some (some (.ref (210 + j.toNat))) := by
  intro j h
  obtain ⟨k, hk, e, -⟩ := nat_of (n := 16) h
  rw [e]
  match k, hk with
  | 0, _ | 1, _ | 2, _ | 3, _ | 4, _ | 5, _ | 6, _ | 7, _ | 8, _ | 9, _ | 10, _ | 11, _ | 12, _ | 13, _ | 14, _ | 15, _ => rfl
  | n + 16, h => omega
theorem ar_237 : ∀ j : Int, 0 ≤ j ∧ j < 4 → ([some (.ref 238), some (.ref 239), some (.ref 240), some (.ref 241)] : List (Option Value))[j.toNat]? = some (some (.ref (238 + j.toNat))) := by
  intro j h
  obtain ⟨k, hk, e, -⟩ := nat_of (n := 4) h
  rw [e]
  match k, hk with
  | 0, _ | 1, _ | 2, _ | 3, _ => rfl
  | n + 4, h => omega
theorem ar_181 : ∀ j : Int, 0 ≤ j ∧ j < 32 → ([some (.ref 10000), some (.ref 10001), some (.ref 10002), some (.ref 10003), some (.ref 10004), some (.ref 10005), some (.ref 10006), some (.ref 10007), some (.ref 10008), some (.ref 10009), some (.ref 10010), some (.ref 10011), some (.ref 10012), some (.ref 10013), some (.ref 10014), some (.ref 10015), some (.ref 10016), some (.ref 10017), some (.ref 10018), some (.ref 10019), some (.ref 10020), some (.ref 10021), some (.ref 10022), some (.ref 10023), some (.ref 10024), some (.ref 10025), some (.ref 10026), some (.ref 10027), some (.ref 10028), some (.ref 10029), some (.ref 10030), some (.ref 10031)] : List (Option Value))[j.toNat]? = some (some (.ref (10000 + j.toNat))) := by
  intro j h
  obtain ⟨k, hk, e, -⟩ := nat_of (n := 32) h
  rw [e]
  match k, hk with
  | 0, _ | 1, _ | 2, _ | 3, _ | 4, _ | 5, _ | 6, _ | 7, _ | 8, _ | 9, _ | 10, _ | 11, _ | 12, _ | 13, _ | 14, _ | 15, _ | 16, _ | 17, _ | 18, _ | 19, _ | 20, _ | 21, _ | 22, _ | 23, _ | 24, _ | 25, _ | 26, _ | 27, _ | 28, _ | 29, _ | 30, _ | 31, _ => rfl
  | n + 32, h => omega
theorem ar_257 : ∀ j : Int, 0 ≤ j ∧ j < 7 → ([some (.ref 10100), some (.ref 10101), some (.ref 10102), some (.ref 10103), some (.ref 10104), some (.ref 10105), some (.ref 10106)] : List (Option Value))[j.toNat]? = some (some (.ref (10100 + j.toNat))) := by
  intro j h
  obtain ⟨k, hk, e, -⟩ := nat_of (n := 7) h
  rw [e]
  match k, hk with
  | 0, _ | 1, _ | 2, _ | 3, _ | 4, _ | 5, _ | 6, _ => rfl
  | n + 7, h => omega
def wbit (x : Int) : Int := ([0, 0, 0, 0, 0, 0, 0, 0, 0, 0, 0, 0, 0, 0, 0, 0, 1, 2, 4, 8, 16, 32, 64, 0, 0, 0, 0, 0, 0, 0, 0, 0] : List Int).getD x.toNat 0
def wcode (x : Int) : Int := ([(-1), (-1), (-1), (-1), (-1), (-1), (-1), (-1), (-1), (-1), (-1), (-1), (-1), (-1), (-1), (-1), (-1), (-1), (-1), (-1), (-1), (-1), (-1), 0, 1, 2, 3, 4, 5, (-1), (-1), (-1)] : List Int).getD x.toNat 0
def wtx (x : Int) : Nat := ([10126, 10126, 10126, 10127, 10137, 10138, 10139, 10128, 10129, 10130, 10140, 10141, 10135, 10136, 10131, 10134, 10143, 10144, 10145, 10146, 10147, 10148, 10149, 10150, 10151, 10152, 10153, 10154, 10155, 10142, 10132, 10133] : List Nat).getD x.toNat 0
def zabove (x : Int) : Int := (([-1, 0, 1, 2, 0, 0, 5] : List Int32).getD x.toNat 0).toInt
def zscr (e : List Int32 × Value) (x : Int) : Int := (e.1.getD x.toNat 0).toInt
def lsl {α : Type} (x : Int) (D : α) (f : Nat → α) : List (Int × Nat) → α
  | [] => D
  | q :: r => if x = q.1 then f q.2 else lsl x D f r
def jfar (x0 x1 : Int) : Int := (if wr (jdiv x0 10 - jdiv x1 10) < 0 then (-(jdiv x0 10 - jdiv x1 10)) else (jdiv x0 10 - jdiv x1 10)) + (if wr (jrem x0 10 - jrem x1 10) < 0 then (-(jrem x0 10 - jrem x1 10)) else (jrem x0 10 - jrem x1 10))
section ZT
variable {e : List Int32 × Value} {d mi pc a b : Nat} {c : Int} {L st rest : List Value} {m m' : zMm} {v l0 l1 : Value} {x y x' y' : Int} {k k2 i' n : Nat} {tm tm' : List (Option Value)}
theorem zw_all (P : Nat → Prop) (h : ∀ k, k < 32 → P k) (hx : 0 ≤ x ∧ x < 32) : P x.toNat := h _ (by omega)
theorem zw_E (hx : 0 ≤ x ∧ x < 32) : zisE (zE0 e.1 e.2) (10000 + x.toNat) = true := zw_all (fun k => zisE (zE0 e.1 e.2) (10000 + k) = true) (by
  intro k hk
  show (decide (10000 ≤ 10000 + k) && (zof (10000 + k) 40 1).isSome) = true
  revert k
  decide +kernel) hx
theorem zw_f {q : Nat} {f : Nat → Value} (hx : 0 ≤ x ∧ x < 32) (hf : ∀ k, k < 32 → zof (10000 + k) 40 q = some (f k)) : (zE0 e.1 e.2).2.1 (10000 + x.toNat) 40 q = some (f x.toNat) := hf _ (by omega)
theorem s_getw' (hp : zP1 mi pc = some (.getfield i', 4, 8, c)) (hw : 0 ≤ m 179 8 ∧ m 179 8 < 32) : Z e d mi pc L (.ref 179 :: st) m = Z e d mi (pc + 3) L (.ref (10000 + (m 179 8).toNat) :: st) m := by
  rw [s_getw hp, zwr_n hw.1]
theorem s_wbit (hp : zP1 mi pc = some (.getfield i', 40, 1, c)) (hx : 0 ≤ x ∧ x < 32) : Z e d mi pc L (.ref (10000 + x.toNat) :: st) m = Z e d mi (pc + 3) L (.int (iI (wbit x)) :: st) m := by
  unfold Z
  rw [rv_getg hp (by decide), zw_f (f := fun k => .int (iI (([0, 0, 0, 0, 0, 0, 0, 0, 0, 0, 0, 0, 0, 0, 0, 0, 1, 2, 4, 8, 16, 32, 64, 0, 0, 0, 0, 0, 0, 0, 0, 0] : List Int).getD k 0))) hx (by decide +kernel)]
  rfl
theorem s_wcode (hp : zP1 mi pc = some (.getfield i', 40, 2, c)) (hx : 0 ≤ x ∧ x < 32) : Z e d mi pc L (.ref (10000 + x.toNat) :: st) m = Z e d mi (pc + 3) L (.int (iI (wcode x)) :: st) m := by
  unfold Z
  rw [rv_getg hp (by decide), zw_f (f := fun k => .int (iI (([(-1), (-1), (-1), (-1), (-1), (-1), (-1), (-1), (-1), (-1), (-1), (-1), (-1), (-1), (-1), (-1), (-1), (-1), (-1), (-1), (-1), (-1), (-1), 0, 1, 2, 3, 4, 5, (-1), (-1), (-1)] : List Int).getD k 0))) hx (by decide +kernel)]
  rfl
theorem s_wtext (hp : zP1 mi pc = some (.getfield i', 40, 0, c)) (hx : 0 ≤ x ∧ x < 32) : Z e d mi pc L (.ref (10000 + x.toNat) :: st) m = Z e d mi (pc + 3) L (.ref (wtx x) :: st) m := by
  unfold Z
  rw [rv_getg hp (by decide), zw_f (f := fun k => .ref (([10126, 10126, 10126, 10127, 10137, 10138, 10139, 10128, 10129, 10130, 10140, 10141, 10135, 10136, 10131, 10134, 10143, 10144, 10145, 10146, 10147, 10148, 10149, 10150, 10151, 10152, 10153, 10154, 10155, 10142, 10132, 10133] : List Nat).getD k 0)) hx (by decide +kernel)]
  rfl
theorem s_wld (hp : zP1 mi pc = some (.aaload, a, b, c)) : Z e d mi pc L (.int (iI x) :: .ref 182 :: st) m = ck ((0 ≤ wr x ∧ wr x < 301) ∧ 0 ≤ m 182 (wr x)) (Z e d mi (pc + 1) L (.ref (10000 + (m 182 (wr x)).toNat) :: st) m) := by
  unfold Z ck
  rw [rv_aald hp, m_gw hs_182]
  by_cases h1 : 0 ≤ wr x ∧ wr x < 301
  · rw [if_pos (show 0 ≤ wr x ∧ wr x < (301 : Nat) from h1)]
    by_cases h2 : 0 ≤ m 182 (wr x)
    · rw [if_neg (by omega), if_pos ⟨h1, h2⟩]
      rfl
    · rw [if_pos (by omega), if_neg (fun q => h2 q.2)]
      rfl
  · rw [if_neg (show ¬ (0 ≤ wr x ∧ wr x < (301 : Nat)) from h1), if_neg (fun q => h1 q.1)]
    rfl
theorem s_wst (hp : zP1 mi pc = some (.aastore, a, b, c)) (hy : 0 ≤ y ∧ y < 32) : Z e d mi pc L (.ref (10000 + y.toNat) :: .int (iI x) :: .ref 182 :: st) m = ck (0 ≤ wr x ∧ wr x < 301) (Z e d mi (pc + 1) L st (um m 182 (wr x) y)) := by
  unfold Z ck
  rw [rv_aast hp, m_sw hs_182 hy.1 (zw_E hy)]
  by_cases h1 : 0 ≤ wr x ∧ wr x < 301
  · rw [if_pos (show 0 ≤ wr x ∧ wr x < (301 : Nat) from h1), if_pos h1]
    rfl
  · rw [if_neg (show ¬ (0 ≤ wr x ∧ wr x < (301 : Nat)) from h1), if_neg h1]
    rfl
theorem zbr_acmp {E : zS} {t : Nat} {off : Int} {h : zH} (hp : zP1 mi pc = some (.if_acmp .eq off, a, b, c)) (hj : zjmp pc off = some t) (h1 : zisE E k = true) (h2 : zisE E k2 = true) : rv E d mi pc L (.ref k2 :: .ref k :: st) h = if k = k2 then rv E d mi t L st h else rv E d mi (pc + 3) L st h := by
  have hb : zbr E (.if_acmp .eq off) (.ref k2 :: .ref k :: st) = some (decide (k = k2), off, st) := by
    simp only [zbr, h1, h2, and_self, if_true]
  rw [rv_br hp rfl hb hj]
  by_cases hq : k = k2 <;> simp [hq]
theorem zbr_acmpn {E : zS} {t : Nat} {off : Int} {h : zH} (hp : zP1 mi pc = some (.if_acmp .ne off, a, b, c)) (hj : zjmp pc off = some t) (h1 : zisE E k = true) (h2 : zisE E k2 = true) : rv E d mi pc L (.ref k2 :: .ref k :: st) h = if k = k2 then rv E d mi (pc + 3) L st h else rv E d mi t L st h := by
  have hb : zbr E (.if_acmp .ne off) (.ref k2 :: .ref k :: st) = some (decide (¬ k = k2), off, st) := by
    simp only [zbr, h1, h2, and_self, if_true]
  rw [rv_br hp rfl hb hj]
  by_cases hq : k = k2 <;> simp [hq]
theorem wd_eq (hx : 0 ≤ x ∧ x < 32) (hy : 0 ≤ y ∧ y < 32) : (10000 + x.toNat = 10000 + y.toNat) = (x = y) := propext ⟨fun q => by omega, fun q => by rw [q]⟩
theorem s_weq_t {t : Nat} {off : Int} (hp : zP1 mi pc = some (.if_acmp .eq off, a, b, c)) (hj : zjmp pc off = some t) (hx : 0 ≤ x ∧ x < 32) (hy : 0 ≤ y ∧ y < 32) : Z e d mi pc L (.ref (10000 + y.toNat) :: .ref (10000 + x.toNat) :: st) m = if x = y then Z e d mi t L st m else Z e d mi (pc + 3) L st m := by
  have h1 := zbr_acmp (E := zE0 e.1 e.2) (d := d) (L := L) (st := st) (h := Jvm.Pilot.CPeaceRingLaw_law_r3750_532f90.hp m) hp hj (zw_E hx) (zw_E hy)
  simp only [wd_eq hx hy] at h1
  exact h1
theorem s_weq_f {t : Nat} {off : Int} (hp : zP1 mi pc = some (.if_acmp .eq off, a, b, c)) (hj : zjmp pc off = some t) (hx : 0 ≤ x ∧ x < 32) (hy : 0 ≤ y ∧ y < 32) : Z e d mi pc L (.ref (10000 + y.toNat) :: .ref (10000 + x.toNat) :: st) m = if ¬ x = y then Z e d mi (pc + 3) L st m else Z e d mi t L st m := Eq.trans (s_weq_t hp hj hx hy) fl_n.symm
theorem s_wne_f {t : Nat} {off : Int} (hp : zP1 mi pc = some (.if_acmp .ne off, a, b, c)) (hj : zjmp pc off = some t) (hx : 0 ≤ x ∧ x < 32) (hy : 0 ≤ y ∧ y < 32) : Z e d mi pc L (.ref (10000 + y.toNat) :: .ref (10000 + x.toNat) :: st) m = if x = y then Z e d mi (pc + 3) L st m else Z e d mi t L st m := by
  have h1 := zbr_acmpn (E := zE0 e.1 e.2) (d := d) (L := L) (st := st) (h := Jvm.Pilot.CPeaceRingLaw_law_r3750_532f90.hp m) hp hj (zw_E hx) (zw_E hy)
  simp only [wd_eq hx hy] at h1
  exact h1
theorem s_wne_t {t : Nat} {off : Int} (hp : zP1 mi pc = some (.if_acmp .ne off, a, b, c)) (hj : zjmp pc off = some t) (hx : 0 ≤ x ∧ x < 32) (hy : 0 ≤ y ∧ y < 32) : Z e d mi pc L (.ref (10000 + y.toNat) :: .ref (10000 + x.toNat) :: st) m = if ¬ x = y then Z e d mi t L st m else Z e d mi (pc + 3) L st m := Eq.trans (s_wne_f hp hj hx hy) fl_n.symm
theorem z_garr {xs : List Int32} (hp : zP1 mi pc = some (.iaload, a, b, c)) (hk : 10000 ≤ k) (ha : (zE0 e.1 e.2).2.2.1 k = some (0, xs)) : Z e d mi pc L (.int (iI x) :: .ref k :: st) m = ck (0 ≤ wr x ∧ wr x < xs.length) (Z e d mi (pc + 1) L (.int (iI (xs.getD (wr x).toNat 0).toInt) :: st) m) := by
  unfold Z ck
  rw [rv_ald (Or.inl ⟨rfl, rfl⟩) hp]
  unfold zgi zarr
  rw [if_pos hk, ha]
  simp only [if_true]
  by_cases h1 : 0 ≤ wr x ∧ wr x < xs.length
  · rw [zix_iI h1.1 h1.2, if_pos h1, iI_of]
    rfl
  · rw [zix_no h1, if_neg h1]
    rfl
theorem s_above (hp : zP1 mi pc = some (.iaload, a, b, c)) : Z e d mi pc L (.int (iI x) :: .ref 10302 :: st) m = ck (0 ≤ wr x ∧ wr x < 7) (Z e d mi (pc + 1) L (.int (iI (zabove (wr x))) :: st) m) := z_garr (xs := [-1, 0, 1, 2, 0, 0, 5]) hp (by decide) rfl
theorem s_scr (hp : zP1 mi pc = some (.iaload, a, b, c)) : Z e d mi pc L (.int (iI x) :: .ref 10303 :: st) m = ck (0 ≤ wr x ∧ wr x < e.1.length) (Z e d mi (pc + 1) L (.int (iI (zscr e (wr x))) :: st) m) := z_garr (xs := e.1) hp (by decide) rfl
theorem z_glen {xs : List Int32} (hp : zP1 mi pc = some (.arraylength, a, b, c)) (hk : 10000 ≤ k) (ha : (zE0 e.1 e.2).2.2.1 k = some (0, xs)) : Z e d mi pc L (.ref k :: st) m = Z e d mi (pc + 1) L (.int (iI xs.length) :: st) m := by
  unfold Z
  rw [rv_alen hp]
  unfold zln zarr
  rw [if_pos hk, ha]
  rfl
theorem s_abl (hp : zP1 mi pc = some (.arraylength, a, b, c)) : Z e d mi pc L (.ref 10302 :: st) m = Z e d mi (pc + 1) L (.int (iI 7) :: st) m := z_glen (xs := [-1, 0, 1, 2, 0, 0, 5]) hp (by decide) rfl
theorem s_scl (hp : zP1 mi pc = some (.arraylength, a, b, c)) : Z e d mi pc L (.ref 10303 :: st) m = Z e d mi (pc + 1) L (.int (iI e.1.length) :: st) m := z_glen (xs := e.1) hp (by decide) rfl
theorem lsl_none {α : Type} {D : α} {f : Nat → α} {ts : List (Int × Nat)} (h : ∀ q ∈ ts, ¬ x = q.1) : lsl x D f ts = D := by
  induction ts with
  | nil => rfl
  | cons q r ih =>
    rw [lsl, if_neg (h q List.mem_cons_self)]
    exact ih (fun q hq => h q (List.mem_cons_of_mem _ hq))
theorem lsl_at {α : Type} {D : α} {f : Nat → α} {ts : List (Int × Nat)} {lo : Int} {j : Nat} {q : Int × Nat} (hm : ∀ (i : Nat) (p : Int × Nat), ts[i]? = some p → p.1 = lo + i) (hj : ts[j]? = some q) : lsl (lo + j) D f ts = f q.2 := by
  induction ts generalizing lo j with
  | nil => cases hj
  | cons p r ih =>
    rw [lsl]
    have h0 := hm 0 p rfl
    cases j with
    | zero =>
      cases hj
      rw [if_pos (by rw [h0])]
    | succ j =>
      rw [if_neg (by rw [h0]; omega)]
      have := ih (lo := lo + 1) (j := j) (fun i p hp => by rw [hm (i + 1) p hp]; omega) hj
      rw [← this]
      congr 1
      omega
theorem s_tsw {dflt lo hi : Int} {offs : Array Int} {ts : List (Int × Nat)} {td : Nat} (hp : zP1 mi pc = some (.tableswitch dflt lo hi offs, a, b, c)) (hl : hi = lo + ts.length - 1) (hk : (List.range ts.length).all (fun i => decide ((ts[i]?).map (fun q => q.1) = some (lo + i) ∧ (offs[i]?).bind (zjmp pc) = (ts[i]?).map (fun q => q.2))) = true) (hd : zjmp pc dflt = some td) (hx : wr x = x') : Z e d mi pc L (.int (iI x) :: st) m = lsl x' (Z e d mi td L st m) (fun t => Z e d mi t L st m) ts := by
  subst hx
  have hm : ∀ (i : Nat) (p : Int × Nat), ts[i]? = some p → p.1 = lo + i ∧ (offs[i]?).bind (zjmp pc) = some p.2 := by
    intro i p hi
    have hlt := (List.getElem?_eq_some_iff.mp hi).1
    have := of_decide_eq_true (List.all_eq_true.mp hk i (List.mem_range.mpr hlt))
    rw [hi] at this
    exact ⟨Option.some.inj this.1, this.2⟩
  by_cases h1 : wr x < lo ∨ hi < wr x
  · rw [lsl_none]
    · refine rv_sw (off := dflt) hp rfl ?_ hd
      show (if (iI x).toInt < lo ∨ hi < (iI x).toInt then _ else _) = _
      rw [iI_toInt, if_pos h1]
    · intro q hq hc
      obtain ⟨i, hi⟩ := List.getElem?_of_mem hq
      have h2 := (hm i q hi).1
      have hlt := (List.getElem?_eq_some_iff.mp hi).1
      omega
  · have hj : (wr x - lo).toNat < ts.length := by omega
    obtain ⟨q, hq⟩ : ∃ q, ts[(wr x - lo).toNat]? = some q := ⟨_, List.getElem?_eq_getElem hj⟩
    have h2 := lsl_at (D := Z e d mi td L st m) (f := fun t => Z e d mi t L st m) (lo := lo) (fun i p hp => (hm i p hp).1) hq
    have h3 : lo + ((wr x - lo).toNat : Int) = wr x := by omega
    rw [h3] at h2
    rw [h2]
    obtain ⟨off, ho1, ho2⟩ := Option.bind_eq_some_iff.mp (hm _ q hq).2
    refine rv_sw (off := off) hp rfl ?_ ho2
    show (if (iI x).toInt < lo ∨ hi < (iI x).toInt then _ else _) = _
    rw [iI_toInt, if_neg h1, ho1]
    rfl
theorem lsl_off {ps : List (Int × Int)} {ts : List (Int × Nat)} {dflt : Int} {td : Nat} (hd : zjmp pc dflt = some td) (hk : ps.map (fun q => (q.1, zjmp pc q.2)) = ts.map (fun q => (q.1, some q.2))) : ∃ t, zjmp pc (Op.lookupswitch.offset ps dflt x) = some t ∧ ∀ (α : Type) (f : Nat → α), lsl x (f td) f ts = f t := by
  induction ps generalizing ts with
  | nil =>
    cases ts with
    | nil => exact ⟨td, hd, fun _ _ => rfl⟩
    | cons => cases hk
  | cons p r ih =>
    cases ts with
    | nil => cases hk
    | cons q s =>
      simp only [List.map_cons, List.cons.injEq, Prod.mk.injEq] at hk
      obtain ⟨⟨e1, e2⟩, e3⟩ := hk
      rw [Op.lookupswitch.offset_cons]
      by_cases h1 : p.1 = x
      · refine ⟨q.2, by rw [if_pos h1]; exact e2, fun α f => ?_⟩
        rw [lsl, if_pos (by rw [← e1, h1])]
      · obtain ⟨t, h2, h3⟩ := ih e3
        refine ⟨t, by rw [if_neg h1]; exact h2, fun α f => ?_⟩
        rw [lsl, if_neg (by rw [← e1]; exact fun q => h1 q.symm)]
        exact h3 α f
theorem s_lsw {dflt : Int} {ps : Array (Int × Int)} {ts : List (Int × Nat)} {td : Nat} (hp : zP1 mi pc = some (.lookupswitch dflt ps, a, b, c)) (hs : (ps.toList.zip (ps.toList.drop 1)).all (fun (a, next) => a.1 < next.1) = true) (hk : ps.toList.map (fun q => (q.1, zjmp pc q.2)) = ts.map (fun q => (q.1, some q.2))) (hd : zjmp pc dflt = some td) (hx : wr x = x') : Z e d mi pc L (.int (iI x) :: st) m = lsl x' (Z e d mi td L st m) (fun t => Z e d mi t L st m) ts := by
  subst hx
  obtain ⟨t, h2, h3⟩ := lsl_off (x := wr x) hd hk
  rw [h3 _ (fun t => Z e d mi t L st m)]
  refine rv_sw hp rfl ?_ h2
  show (if _ then some (Op.lookupswitch.offset ps.toList dflt (iI x).toInt, st) else none) = _
  rw [if_pos hs, iI_toInt]
theorem zhp_cp {E : zS} {h : zH} : zhp E (.invokestatic i') 9999 b c L st h = zcopy st h := rfl
theorem s_cpy {k0 k1 n0 n1 : Nat} {nn dp sp n0' n1' : Int} {tm1 : List (Option Value)} (hp : zP1 mi pc = some (.invokestatic i', 9999, b, c)) (hs0 : zshape[k0]? = some (0, 0, n0, tm)) (hs1 : zshape[k1]? = some (0, 0, n1, tm1)) (e0 : (n0 : Int) = n0') (e1 : (n1 : Int) = n1') : Z e d mi pc L [.int (iI nn), .int (iI dp), .ref k1, .int (iI sp), .ref k0] m = ck (0 ≤ wr nn ∧ 0 ≤ wr sp ∧ 0 ≤ wr dp ∧ wr sp + wr nn ≤ n0' ∧ wr dp + wr nn ≤ n1') (Z e d mi (pc + 3) L [] (uc m k0 (wr sp) k1 (wr dp) (wr nn))) := by
  subst e0 e1
  unfold Z ck
  rw [rv_hpm hp rfl, zhp_cp]
  by_cases h1 : 0 ≤ wr nn ∧ 0 ≤ wr sp ∧ 0 ≤ wr dp ∧ wr sp + wr nn ≤ n0 ∧ wr dp + wr nn ≤ n1
  · rw [if_pos h1, m_cpy hs0 hs1 h1.1 h1.2.1 h1.2.2.1 h1.2.2.2.1 h1.2.2.2.2]
    simp only [Option.bind_some, zlen]
  · rw [if_neg h1]
    have : zcopy [.int (iI nn), .int (iI dp), .ref k1, .int (iI sp), .ref k0] (Jvm.Pilot.CPeaceRingLaw_law_r3750_532f90.hp m) = none := by
      unfold zcopy
      dsimp only
      rw [hp_get hs0, hp_get hs1]
      simp only [zfill, List.length_map, List.length_range]
      rw [if_neg]
      rintro ⟨-, q1, q2, q3, q4, q5⟩
      rw [iI_n0] at q1 q2 q3
      rw [iI_clamp (by omega), iI_clamp (by omega)] at q4 q5
      exact h1 ⟨by omega, by omega, by omega, by omega, by omega⟩
    rw [this]
    rfl
theorem s_cg0 {Lc : List Value} {q1 : MethodName} {bt : ByteArray} {nL : Nat} {ret : Option FieldType} (hp : zP1 mi pc = some (.invokevirtual i', a, 0, 41)) (hk : a < 9000) (hm : zM1 a = some (q1, bt, nL, ret)) (hl : (zargs [.ref k]).length ≤ nL ∧ zcs rest ≤ 8) (he : zent nL [.ref k] = Lc) (hs : zisS (zE0 e.1 e.2) k = true) : Z e (d + 1) mi pc L (.ref k :: rest) m = (Z e d a 0 Lc [] m).bind (ZK e (d + 1) mi (pc + 3) L rest m) := by
  subst he
  exact rv_callg (as := []) hp hk hs hm rfl hl
theorem s_cg1 {v1 : Value} {Lc : List Value} {q1 : MethodName} {bt : ByteArray} {nL : Nat} {ret : Option FieldType} (hp : zP1 mi pc = some (.invokevirtual i', a, 1, 41)) (hk : a < 9000) (hm : zM1 a = some (q1, bt, nL, ret)) (hl : (zargs [.ref k, v1]).length ≤ nL ∧ zcs rest ≤ 8) (he : zent nL [.ref k, v1] = Lc) (hs : zisS (zE0 e.1 e.2) k = true) : Z e (d + 1) mi pc L (v1 :: .ref k :: rest) m = (Z e d a 0 Lc [] m).bind (ZK e (d + 1) mi (pc + 3) L rest m) := by
  subst he
  exact rv_callg (as := [v1]) hp hk hs hm rfl hl
end ZT
