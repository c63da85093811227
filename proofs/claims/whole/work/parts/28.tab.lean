/-! Table. -/
/-- the table at a, its cells at ca, its width and its limit -/
def zTab (a ca w mx : Nat) : Prop := zshape[a]? = some (1, 7, [some (.int (nI w)), some (.ref ca), some (.int (nI mx)), none]) ∧ zshape[ca]? = some (0, 0, []) ∧ ca < 10000 ∧ mx * w < 2 ^ 31 ∧ w < 2 ^ 31 ∧ mx < 2 ^ 31
section TB
variable {E : zS} {d a ca w mx : Nat} {F : Nat → Nat → Int32} {A : Nat → List Int32}
theorem T_0 (h : zTab a ca w mx) : zfl (hp F A) a 7 0 = some (.int (nI w)) := m_fl h.1
theorem T_1 (h : zTab a ca w mx) : zfl (hp F A) a 7 1 = some (.ref ca) := m_fl h.1
theorem T_2 (h : zTab a ca w mx) : zfl (hp F A) a 7 2 = some (.int (nI mx)) := m_fl h.1
theorem T_3 (h : zTab a ca w mx) : zfl (hp F A) a 7 3 = some (.int (F a 3)) := m_fl h.1
theorem T_g {i : Int32} (h : zTab a ca w mx) : zgi E (hp F A) ca i 0 = (zix i (A ca).length).map (fun j => gI (A ca) j) := m_gi h.2.2.1 h.2.1
theorem T_s {i x : Int32} (h : zTab a ca w mx) : zsi (hp F A) ca i x 0 = (zix i (A ca).length).map (fun j => hp F (uA A ca ((A ca).set j x))) := m_si h.2.1
theorem T_p {x : Int32} (h : zTab a ca w mx) : zsf (hp F A) a 7 3 0 (.int x) = some (hp (uF F a 3 x) A) := m_sf h.1 (by decide) rfl rfl
theorem T_r (h : zTab a ca w mx) : zrc (hp F A) a 7 = true := m_rc h.1 ⟨rfl, by decide⟩
theorem T_len (h : zTab a ca w mx) : zln E (hp F A) ca = some (Int32.ofNat (A ca).length) := m_ln h.2.2.1 (by decide) h.2.1
theorem tb_ix {j k w mx : Nat} (hj : j < mx) (hk : k < w) : j * w + k < mx * w := by
  have : (j + 1) * w ≤ mx * w := Nat.mul_le_mul_right w hj
  rw [Nat.succ_mul] at this
  omega
theorem Table_has {i : Int32} {n : Nat} (hT : zTab a ca w mx) (hn : F a 3 = nI n) : rv E d 102 0 [.ref a, .int i] [] (hp F A) = some (some (.int (if 0 ≤ i ∧ i < nI n then nI 1 else nI 0)), hp F A) := by
  simp only [zi_102_0, zi_102_1, zi_102_4, zi_102_5, zi_102_6, zi_102_9, zi_102_12, zi_102_13, zi_102_16, zi_102_17, T_3 hT, hn, Option.bind_some, nb0, nb1, if_true]
  by_cases h1 : i < 0
  · have : ¬ (0 ≤ i ∧ i < nI n) := fun q => absurd q.1 (Int32.not_le.mpr h1)
    simp [h1, this]
  · by_cases h2 : nI n ≤ i
    · have : ¬ (0 ≤ i ∧ i < nI n) := fun q => absurd q.2 (Int32.not_lt.mpr h2)
      simp [h1, h2, this]
    · have : 0 ≤ i ∧ i < nI n := ⟨Int32.not_lt.mp h1, Int32.not_le.mp h2⟩
      simp [h1, h2, this]
theorem Table_isFull {n : Nat} (hT : zTab a ca w mx) (hn : F a 3 = nI n) (hm : n ≤ mx) : rv E d 103 0 [.ref a] [] (hp F A) = some (some (.int (if n = mx then nI 1 else nI 0)), hp F A) := by
  simp only [zi_103_0, zi_103_1, zi_103_4, zi_103_5, zi_103_8, zi_103_11, zi_103_12, zi_103_15, zi_103_16, T_3 hT, T_2 hT, hn, Option.bind_some, nb0, nb1, if_true]
  have := hT.2.2.2.2.2
  by_cases h : n = mx
  · subst h; simp
  · have h2 : nI n < nI mx := (nI_ltI (by omega) (by omega)).mpr (by omega)
    simp [h, h2]
theorem Table_get {n j k : Nat} (hT : zTab a ca w mx) (hn : F a 3 = nI n) (hm : n ≤ mx) (hl : (A ca).length = mx * w) (hj : j < n) (hk : k < w) : rv E d 104 0 [.ref a, .int (nI j), .int (nI k)] [] (hp F A) = some (some (.int (gI (A ca) (j * w + k))), hp F A) := by
  have hb := tb_ix (w := w) (show j < mx by omega) hk
  obtain ⟨-, -, -, b1, b2, b3⟩ := id hT
  rw [← hl] at hb b1
  simp (disch := first | exact cat_i | exact cat_r | exact cat_u | assumption | omega) only [zi_104_0, zi_104_1, zi_104_4, zi_104_5, zi_104_6, zi_104_9, zi_104_12, zi_104_13, zi_104_16, zi_104_17, zi_104_18, zi_104_21, zi_104_24, zi_104_26, zi_104_27, zi_104_28, zi_104_31, zi_104_32, zi_104_33, zi_104_36, zi_104_37, zi_104_38, zi_104_39, zi_104_40, T_3 hT, T_0 hT, T_1 hT, T_g hT, hn, itp, itn, nI_ltI, nI_leI, nI_eq, nI_n0, nI_p0, Option.bind_some, Option.map_some, Option.bind_none, Option.map_none, zth_i, zth_n, zth_r, nI_add, pk_mul, pk_sub, pk_div, pk_rem, zix_nI, nb0, nb1, if_true, if_false]
theorem Table_set {n j k : Nat} {x : Int32} (hT : zTab a ca w mx) (hn : F a 3 = nI n) (hm : n ≤ mx) (hl : (A ca).length = mx * w) (hj : j < n) (hk : k < w) : rv E d 105 0 [.ref a, .int (nI j), .int (nI k), .int x] [] (hp F A) = some (none, hp F (uA A ca ((A ca).set (j * w + k) x))) := by
  have hb := tb_ix (w := w) (show j < mx by omega) hk
  obtain ⟨-, -, -, b1, b2, b3⟩ := id hT
  rw [← hl] at hb b1
  simp (disch := first | exact cat_i | exact cat_r | exact cat_u | assumption | omega) only [zi_105_0, zi_105_1, zi_105_4, zi_105_5, zi_105_6, zi_105_9, zi_105_12, zi_105_13, zi_105_16, zi_105_17, zi_105_18, zi_105_21, zi_105_24, zi_105_25, zi_105_26, zi_105_29, zi_105_30, zi_105_31, zi_105_34, zi_105_35, zi_105_36, zi_105_37, zi_105_38, zi_105_39, T_3 hT, T_0 hT, T_1 hT, T_s hT, hn, itp, itn, nI_ltI, nI_leI, nI_eq, nI_n0, nI_p0, Option.bind_some, Option.map_some, Option.bind_none, Option.map_none, zth_i, zth_n, zth_r, nI_add, pk_mul, pk_sub, pk_div, pk_rem, zix_nI, nb0, nb1, if_true, if_false]
end TB
theorem uA_u {A : Nat → List Int32} {k : Nat} {x y : List Int32} : uA (uA A k x) k y = uA A k y := by
  funext q
  unfold uA
  split <;> rfl
section TB2
variable {E : zS} {d a ca w mx : Nat} {F : Nat → Nat → Int32} {A : Nat → List Int32}
/-- w zeros from b on -/
def zzero (l : List Int32) (b w : Nat) : List Int32 := (List.range w).foldl (fun l k => l.set (b + k) (nI 0)) l
theorem zzero_len {l : List Int32} {b w : Nat} : (zzero l b w).length = l.length := by
  unfold zzero
  induction w with
  | zero => rfl
  | succ w ih => rw [List.range_succ, List.foldl_append]; simpa using ih
theorem zzero_succ {l : List Int32} {b w : Nat} : zzero l b (w + 1) = (zzero l b w).set (b + w) (nI 0) := by
  unfold zzero
  rw [List.range_succ, List.foldl_append]
  rfl
theorem Table_add {n : Nat} (hT : zTab a ca w mx) (hn : F a 3 = nI n) (hm : n < mx) (hl : (A ca).length = mx * w) : rv E d 106 0 [.ref a, .retAddr 0] [] (hp F A) = some (some (.int (nI n)), hp (uF F a 3 (nI (n + 1))) (uA A ca (zzero (A ca) (n * w) w))) := by
  obtain ⟨-, -, -, b1, b2, b3⟩ := id hT
  have hl2 : ∀ k, (uA A ca (zzero (A ca) (n * w) k) ca).length = mx * w := fun k => by rw [uA_s, zzero_len, hl]
  have loop : ∀ k, k < w → rv E d 106 16 [.ref a, .int (nI k)] [] (hp F (uA A ca (zzero (A ca) (n * w) k))) = rv E d 106 16 [.ref a, .int (nI (k + 1))] [] (hp F (uA A ca (zzero (A ca) (n * w) (k + 1)))) := by
    intro k hk
    have hb : n * w + k < (uA A ca (zzero (A ca) (n * w) k) ca).length := by rw [hl2]; exact tb_ix hm hk
    have hb2 : (uA A ca (zzero (A ca) (n * w) k) ca).length < 2 ^ 31 := by rw [hl2]; exact b1
    rw [zi_106_16, zi_106_17]
    simp (disch := first | exact cat_i | exact cat_r | exact cat_u | assumption | omega) only [zi_106_18, zi_106_21, zi_106_24, zi_106_25, zi_106_28, zi_106_29, zi_106_32, zi_106_33, zi_106_36, zi_106_37, zi_106_38, zi_106_39, zi_106_40, zi_106_41, zi_106_44, T_3 hT, T_0 hT, T_1 hT, T_s hT, hn, itp, itn, nI_ltI, nI_leI, nI_eq, nI_n0, nI_p0, Option.bind_some, Option.map_some, Option.bind_none, Option.map_none, zth_i, zth_n, zth_r, nI_add, pk_mul, pk_sub, pk_div, pk_rem, zix_nI, nb0, nb1, if_true, if_false]
    rw [uA_s, ← zzero_succ, uA_u]
  have h0 := it_eq (f := fun k => rv E d 106 16 [.ref a, .int (nI k)] [] (hp F (uA A ca (zzero (A ca) (n * w) k)))) loop
  have e0 : uA A ca (zzero (A ca) (n * w) 0) = A := by
    funext q
    unfold uA zzero
    split
    · rename_i hq; subst hq; rfl
    · rfl
  rw [e0] at h0
  simp (disch := first | exact cat_i | exact cat_r | exact cat_u | assumption | omega) only [zi_106_0, zi_106_1, zi_106_4, zi_106_5, zi_106_8, zi_106_11, zi_106_13, zi_106_14, zi_106_15, T_3 hT, T_2 hT, hn, itp, itn, nI_ltI, nI_leI, nI_eq, nI_n0, nI_p0, Option.bind_some, Option.map_some, Option.bind_none, Option.map_none, zth_i, zth_n, zth_r, nI_add, pk_mul, pk_sub, pk_div, pk_rem, zix_nI, nb0, nb1, if_true, if_false]
  rw [h0]
  simp (disch := first | exact cat_i | exact cat_r | exact cat_u | assumption | omega) only [zi_106_16, zi_106_17, zi_106_18, zi_106_21, zi_106_47, zi_106_48, zi_106_49, zi_106_52, zi_106_53, zi_106_54, zi_106_57, zi_106_58, zi_106_61, zi_106_62, zi_106_63, T_0 hT, T_3 hT, T_p hT, hn, uF_s, Nat.add_sub_cancel, itp, itn, nI_ltI, nI_leI, nI_eq, nI_n0, nI_p0, Option.bind_some, Option.map_some, Option.bind_none, Option.map_none, zth_i, zth_n, zth_r, nI_add, pk_mul, pk_sub, pk_div, pk_rem, zix_nI, nb0, nb1, if_true, if_false]
end TB2
section TB3
variable {E : zS} {d a ca w mx : Nat} {F : Nat → Nat → Int32} {A : Nat → List Int32}
/-- whether one of n rows has x in its first place -/
def zany (l : List Int32) (w n : Nat) (x : Int32) : Bool := (List.range n).any (fun j => decide (gI l (j * w) = x))
theorem Table_isAnyAt {n : Nat} {x : Int32} (hT : zTab a ca w mx) (hw : 0 < w) (hn : F a 3 = nI n) (hm : n ≤ mx) (hl : (A ca).length = mx * w) : rv E d 107 0 [.ref a, .int x, .retAddr 0] [] (hp F A) = some (some (.int (if zany (A ca) w n x = true then nI 1 else nI 0)), hp F A) := by
  obtain ⟨-, -, -, b1, b2, b3⟩ := id hT
  have loop : ∀ k j, j + k = n → rv E d 107 2 [.ref a, .int x, .int (nI j)] [] (hp F A) = some (some (.int (if (List.range' j k).any (fun j => decide (gI (A ca) (j * w) = x)) = true then nI 1 else nI 0)), hp F A) := by
    intro k
    induction k with
    | zero =>
      intro j hj
      simp (disch := first | exact cat_i | exact cat_r | exact cat_u | assumption | omega) only [zi_107_2, zi_107_3, zi_107_4, zi_107_7, zi_107_35, zi_107_36, T_3 hT, hn, itp, itn, nI_ltI, nI_leI, nI_eq, nI_n0, nI_p0, Option.bind_some, Option.map_some, Option.bind_none, Option.map_none, zth_i, zth_n, zth_r, nI_add, pk_mul, pk_sub, pk_div, pk_rem, zix_nI, nb0, nb1, if_true, if_false]
      simp
    | succ k ih =>
      intro j hj
      have hb := tb_ix (w := w) (show j < mx by omega) hw
      have b1' : (A ca).length < 2 ^ 31 := by rw [hl]; exact b1
      rw [← hl, Nat.add_zero] at hb
      rw [zi_107_2, zi_107_3]
      simp (disch := first | exact cat_i | exact cat_r | exact cat_u | assumption | omega) only [zi_107_4, zi_107_7, zi_107_10, zi_107_11, zi_107_14, zi_107_15, zi_107_16, zi_107_19, zi_107_20, zi_107_21, zi_107_22, zi_107_23, zi_107_24, zi_107_27, zi_107_28, zi_107_29, zi_107_32, T_3 hT, T_0 hT, T_1 hT, T_g hT, hn, Nat.add_zero, itp, itn, nI_ltI, nI_leI, nI_eq, nI_n0, nI_p0, Option.bind_some, Option.map_some, Option.bind_none, Option.map_none, zth_i, zth_n, zth_r, nI_add, pk_mul, pk_sub, pk_div, pk_rem, zix_nI, nb0, nb1, if_true, if_false]
      rw [ih (j + 1) (by omega)]
      rw [List.range'_succ, List.any_cons]
      by_cases hx : gI (A ca) (j * w) = x
      · simp [hx]
      · rw [decide_eq_false hx, Bool.false_or]
        simp [hx]
  simp (disch := first | exact cat_i | exact cat_r | exact cat_u | assumption | omega) only [zi_107_0, zi_107_1]
  have := loop n 0 (by omega)
  rw [show nI 0 = nI 0 from rfl] at this
  rw [this]
  unfold zany
  rw [List.range_eq_range']
end TB3
