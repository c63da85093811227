/-! The pool, the classes. -/
def zpck (e : zPe) : Bool := match zowns[e.1]? with
  | some own => zck1 zcl zdf zF own e.2.1 e.2.2 || zck2 zcl (zMof zprog) own e.2.1 e.2.2
  | none => false
theorem zpck_ok {e : zPe} (h : zpck e = true) : ∃ own, zowns[e.1]? = some own ∧ (zck1 zcl zdf zF own e.2.1 e.2.2 = true ∨ zck2 zcl (zMof zprog) own e.2.1 e.2.2 = true) := by
  unfold zpck at h
  split at h
  · rename_i own ho
    exact ⟨own, ho, Bool.or_eq_true _ _ |>.mp h⟩
  · cases h
theorem zpk_0 : zpo_0.all zpck = true := by decide +kernel
theorem zpk_1 : zpo_1.all zpck = true := by decide +kernel
theorem zpk_2 : zpo_2.all zpck = true := by decide +kernel
theorem zpk_3 : zpo_3.all zpck = true := by decide +kernel
theorem zpk_4 : zpo_4.all zpck = true := by decide +kernel
theorem zpk_5 : zpo_5.all zpck = true := by decide +kernel
theorem zpk_6 : zpo_6.all zpck = true := by decide +kernel
theorem zpk_7 : zpo_7.all zpck = true := by decide +kernel
theorem zpk_8 : zpo_8.all zpck = true := by decide +kernel
theorem zpk_9 : zpo_9.all zpck = true := by decide +kernel
theorem zpk_10 : zpo_10.all zpck = true := by decide +kernel
theorem zpk_11 : zpo_11.all zpck = true := by decide +kernel
theorem zpk_12 : zpo_12.all zpck = true := by decide +kernel
theorem zpk_13 : zpo_13.all zpck = true := by decide +kernel
theorem zpk_14 : zpo_14.all zpck = true := by decide +kernel
theorem zpk_15 : zpo_15.all zpck = true := by decide +kernel
theorem zpk_16 : zpo_16.all zpck = true := by decide +kernel
theorem zpool_ok : ∀ l ∈ zpool, ∀ e ∈ l, ∃ own, zowns[e.1]? = some own ∧ (zck1 zcl zdf zF own e.2.1 e.2.2 = true ∨ zck2 zcl (zMof zprog) own e.2.1 e.2.2 = true) := List.forall_mem_cons.mpr ⟨fun e he => zpck_ok (List.all_eq_true.mp zpk_0 e he), List.forall_mem_cons.mpr ⟨fun e he => zpck_ok (List.all_eq_true.mp zpk_1 e he), List.forall_mem_cons.mpr ⟨fun e he => zpck_ok (List.all_eq_true.mp zpk_2 e he), List.forall_mem_cons.mpr ⟨fun e he => zpck_ok (List.all_eq_true.mp zpk_3 e he), List.forall_mem_cons.mpr ⟨fun e he => zpck_ok (List.all_eq_true.mp zpk_4 e he), List.forall_mem_cons.mpr ⟨fun e he => zpck_ok (List.all_eq_true.mp zpk_5 e he), List.forall_mem_cons.mpr ⟨fun e he => zpck_ok (List.all_eq_true.mp zpk_6 e he), List.forall_mem_cons.mpr ⟨fun e he => zpck_ok (List.all_eq_true.mp zpk_7 e he), List.forall_mem_cons.mpr ⟨fun e he => zpck_ok (List.all_eq_true.mp zpk_8 e he), List.forall_mem_cons.mpr ⟨fun e he => zpck_ok (List.all_eq_true.mp zpk_9 e he), List.forall_mem_cons.mpr ⟨fun e he => zpck_ok (List.all_eq_true.mp zpk_10 e he), List.forall_mem_cons.mpr ⟨fun e he => zpck_ok (List.all_eq_true.mp zpk_11 e he), List.forall_mem_cons.mpr ⟨fun e he => zpck_ok (List.all_eq_true.mp zpk_12 e he), List.forall_mem_cons.mpr ⟨fun e he => zpck_ok (List.all_eq_true.mp zpk_13 e he), List.forall_mem_cons.mpr ⟨fun e he => zpck_ok (List.all_eq_true.mp zpk_14 e he), List.forall_mem_cons.mpr ⟨fun e he => zpck_ok (List.all_eq_true.mp zpk_15 e he), List.forall_mem_cons.mpr ⟨fun e he => zpck_ok (List.all_eq_true.mp zpk_16 e he), fun _ h => absurd h List.not_mem_nil⟩⟩⟩⟩⟩⟩⟩⟩⟩⟩⟩⟩⟩⟩⟩⟩⟩
theorem zcw_of {C : String} {T : u_T} {N : Nat} {js : List Nat} (h : (List.range N).all (fun k => zat (js.getD k 0) (u_lay C T k)) = true) : ∀ w ∈ u_ws C T N, w ∈ zT := by
  intro w hw
  unfold u_ws at hw
  obtain ⟨k, hk, rfl⟩ := List.mem_map.mp hw
  exact zat_ok (List.all_eq_true.mp h k hk)
theorem zcw_0 : ∀ w ∈ u_ws "PeaceRing$Host" zf_0 14, w ∈ zT := zcw_of (js := [523, 525, 527, 529, 531, 533, 535, 537, 539, 541, 543, 545, 547, 549]) (by decide +kernel)
theorem znm_0 : ∀ a, a < 14 → ∀ b, b < 14 → a ≠ b → (zf_0 a).2.1 ≠ (zf_0 b).2.1 := by decide +kernel
theorem zty_0 : ∀ k, k < 14 → parseFieldDescriptor (zf_0 k).2.2.1 = some ((fun k => (parseFieldDescriptor (zf_0 k).2.2.1).getD .int) k) := by decide +kernel
theorem zcw_1 : ∀ w ∈ u_ws "PeaceRing$Law" zf_1 11, w ∈ zT := zcw_of (js := [404, 406, 408, 410, 412, 414, 416, 418, 420, 422, 424]) (by decide +kernel)
theorem znm_1 : ∀ a, a < 11 → ∀ b, b < 11 → a ≠ b → (zf_1 a).2.1 ≠ (zf_1 b).2.1 := by decide +kernel
theorem zty_1 : ∀ k, k < 11 → parseFieldDescriptor (zf_1 k).2.2.1 = some ((fun k => (parseFieldDescriptor (zf_1 k).2.2.1).getD .int) k) := by decide +kernel
theorem zcw_2 : ∀ w ∈ u_ws "PeaceRing$Plan" zf_2 9, w ∈ zT := zcw_of (js := [479, 481, 483, 485, 487, 489, 491, 493, 495]) (by decide +kernel)
theorem znm_2 : ∀ a, a < 9 → ∀ b, b < 9 → a ≠ b → (zf_2 a).2.1 ≠ (zf_2 b).2.1 := by decide +kernel
theorem zty_2 : ∀ k, k < 9 → parseFieldDescriptor (zf_2 k).2.2.1 = some ((fun k => (parseFieldDescriptor (zf_2 k).2.2.1).getD .int) k) := by decide +kernel
theorem zcw_3 : ∀ w ∈ u_ws "PeaceRing$Posts" zf_3 2, w ∈ zT := zcw_of (js := [435, 437]) (by decide +kernel)
theorem znm_3 : ∀ a, a < 2 → ∀ b, b < 2 → a ≠ b → (zf_3 a).2.1 ≠ (zf_3 b).2.1 := by decide +kernel
theorem zty_3 : ∀ k, k < 2 → parseFieldDescriptor (zf_3 k).2.2.1 = some ((fun k => (parseFieldDescriptor (zf_3 k).2.2.1).getD .int) k) := by decide +kernel
theorem zcw_4 : ∀ w ∈ u_ws "PeaceRing$Reader" zf_4 10, w ∈ zT := zcw_of (js := [335, 337, 339, 341, 343, 345, 347, 349, 351, 353]) (by decide +kernel)
theorem znm_4 : ∀ a, a < 10 → ∀ b, b < 10 → a ≠ b → (zf_4 a).2.1 ≠ (zf_4 b).2.1 := by decide +kernel
theorem zty_4 : ∀ k, k < 10 → parseFieldDescriptor (zf_4 k).2.2.1 = some ((fun k => (parseFieldDescriptor (zf_4 k).2.2.1).getD .int) k) := by decide +kernel
theorem zcw_5 : ∀ w ∈ u_ws "PeaceRing$Roads" zf_5 5, w ∈ zT := zcw_of (js := [373, 375, 377, 379, 381]) (by decide +kernel)
theorem znm_5 : ∀ a, a < 5 → ∀ b, b < 5 → a ≠ b → (zf_5 a).2.1 ≠ (zf_5 b).2.1 := by decide +kernel
theorem zty_5 : ∀ k, k < 5 → parseFieldDescriptor (zf_5 k).2.2.1 = some ((fun k => (parseFieldDescriptor (zf_5 k).2.2.1).getD .int) k) := by decide +kernel
theorem zcw_6 : ∀ w ∈ u_ws "PeaceRing$Runners" zf_6 4, w ∈ zT := zcw_of (js := [451, 453, 455, 457]) (by decide +kernel)
theorem znm_6 : ∀ a, a < 4 → ∀ b, b < 4 → a ≠ b → (zf_6 a).2.1 ≠ (zf_6 b).2.1 := by decide +kernel
theorem zty_6 : ∀ k, k < 4 → parseFieldDescriptor (zf_6 k).2.2.1 = some ((fun k => (parseFieldDescriptor (zf_6 k).2.2.1).getD .int) k) := by decide +kernel
theorem zcw_7 : ∀ w ∈ u_ws "PeaceRing$Table" zf_7 4, w ∈ zT := zcw_of (js := [164, 166, 168, 170]) (by decide +kernel)
theorem znm_7 : ∀ a, a < 4 → ∀ b, b < 4 → a ≠ b → (zf_7 a).2.1 ≠ (zf_7 b).2.1 := by decide +kernel
theorem zty_7 : ∀ k, k < 4 → parseFieldDescriptor (zf_7 k).2.2.1 = some ((fun k => (parseFieldDescriptor (zf_7 k).2.2.1).getD .int) k) := by decide +kernel
theorem zcw_8 : ∀ w ∈ u_ws "PeaceRing$Version" zf_8 10, w ∈ zT := zcw_of (js := [202, 204, 206, 208, 210, 212, 214, 216, 218, 220]) (by decide +kernel)
theorem znm_8 : ∀ a, a < 10 → ∀ b, b < 10 → a ≠ b → (zf_8 a).2.1 ≠ (zf_8 b).2.1 := by decide +kernel
theorem zty_8 : ∀ k, k < 10 → parseFieldDescriptor (zf_8 k).2.2.1 = some ((fun k => (parseFieldDescriptor (zf_8 k).2.2.1).getD .int) k) := by decide +kernel
theorem zcw_9 : ∀ w ∈ u_ws "PeaceRing$World" zf_9 12, w ∈ zT := zcw_of (js := [274, 276, 278, 280, 282, 284, 286, 288, 290, 292, 294, 296]) (by decide +kernel)
theorem znm_9 : ∀ a, a < 12 → ∀ b, b < 12 → a ≠ b → (zf_9 a).2.1 ≠ (zf_9 b).2.1 := by decide +kernel
theorem zty_9 : ∀ k, k < 12 → parseFieldDescriptor (zf_9 k).2.2.1 = some ((fun k => (parseFieldDescriptor (zf_9 k).2.2.1).getD .int) k) := by decide +kernel
theorem zcw_10 : ∀ w ∈ u_ws "PeaceRing" zf_10 10, w ∈ zT := zcw_of (js := [562, 564, 566, 568, 570, 572, 574, 576, 578, 580]) (by decide +kernel)
theorem znm_10 : ∀ a, a < 10 → ∀ b, b < 10 → a ≠ b → (zf_10 a).2.1 ≠ (zf_10 b).2.1 := by decide +kernel
theorem zty_10 : ∀ k, k < 10 → parseFieldDescriptor (zf_10 k).2.2.1 = some ((fun k => (parseFieldDescriptor (zf_10 k).2.2.1).getD .int) k) := by decide +kernel
theorem zcw_11 : ∀ w ∈ u_ws "PeaceRingModel" zf_11 38, w ∈ zT := zcw_of (js := [1518, 1520, 1522, 1524, 1526, 1528, 1530, 1532, 1534, 1536, 1538, 1540, 1542, 1544, 1546, 1548, 1550, 1552, 1554, 1556, 1558, 1560, 1562, 1564, 1566, 1568, 1570, 1572, 1574, 1576, 1578, 1580, 1582, 1584, 1586, 1588, 1590, 1592]) (by decide +kernel)
theorem znm_11 : ∀ a, a < 38 → ∀ b, b < 38 → a ≠ b → (zf_11 a).2.1 ≠ (zf_11 b).2.1 := by decide +kernel
theorem zty_11 : ∀ k, k < 38 → parseFieldDescriptor (zf_11 k).2.2.1 = some ((fun k => (parseFieldDescriptor (zf_11 k).2.2.1).getD .int) k) := by decide +kernel
theorem zN_ok : ∀ w ∈ zN, w.onTables = true ∧ ∀ s U : State, s.WarmedH U.vm → va_Nw w s → va_Nw w U := by
  intro w hw
  have h := (List.mem_filter.mp hw).2
  cases w <;> first | (cases h; done) | skip
  · exact ⟨rfl, fun s U hW hz => va_Nw.warmM hW hz⟩
  · exact ⟨rfl, fun s U hW hz => va_Nw.warmF hW hz⟩
theorem zokc_ok : zokc zcl zT zN := by
  refine ⟨fun a C T N h => ?_, zN_ok, ⟨_, _, rfl⟩⟩
  match a, h with
  | 0, h => cases h; exact ⟨by decide, zcw_0, ⟨_, zty_0⟩, znm_0⟩
  | 1, h => cases h; exact ⟨by decide, zcw_1, ⟨_, zty_1⟩, znm_1⟩
  | 2, h => cases h; exact ⟨by decide, zcw_2, ⟨_, zty_2⟩, znm_2⟩
  | 3, h => cases h; exact ⟨by decide, zcw_3, ⟨_, zty_3⟩, znm_3⟩
  | 4, h => cases h; exact ⟨by decide, zcw_4, ⟨_, zty_4⟩, znm_4⟩
  | 5, h => cases h; exact ⟨by decide, zcw_5, ⟨_, zty_5⟩, znm_5⟩
  | 6, h => cases h; exact ⟨by decide, zcw_6, ⟨_, zty_6⟩, znm_6⟩
  | 7, h => cases h; exact ⟨by decide, zcw_7, ⟨_, zty_7⟩, znm_7⟩
  | 8, h => cases h; exact ⟨by decide, zcw_8, ⟨_, zty_8⟩, znm_8⟩
  | 9, h => cases h; exact ⟨by decide, zcw_9, ⟨_, zty_9⟩, znm_9⟩
  | 10, h => cases h; exact ⟨by decide, zcw_10, ⟨_, zty_10⟩, znm_10⟩
  | 11, h => cases h; exact ⟨by decide, zcw_11, ⟨_, zty_11⟩, znm_11⟩
  | a + 12, h => simp [zcl] at h
theorem zin_0 : Jvm.Cond.instantiable "PeaceRing$Host" 14 ∈ zT := zat_ok (i := 499) (by decide +kernel)
theorem zin_1 : Jvm.Cond.instantiable "PeaceRing$Law" 11 ∈ zT := zat_ok (i := 385) (by decide +kernel)
theorem zin_2 : Jvm.Cond.instantiable "PeaceRing$Plan" 9 ∈ zT := zat_ok (i := 461) (by decide +kernel)
theorem zin_3 : Jvm.Cond.instantiable "PeaceRing$Posts" 2 ∈ zT := zat_ok (i := 428) (by decide +kernel)
theorem zin_4 : Jvm.Cond.instantiable "PeaceRing$Reader" 10 ∈ zT := zat_ok (i := 300) (by decide +kernel)
theorem zin_5 : Jvm.Cond.instantiable "PeaceRing$Roads" 5 ∈ zT := zat_ok (i := 358) (by decide +kernel)
theorem zin_6 : Jvm.Cond.instantiable "PeaceRing$Runners" 4 ∈ zT := zat_ok (i := 441) (by decide +kernel)
theorem zin_7 : Jvm.Cond.instantiable "PeaceRing$Table" 4 ∈ zT := zat_ok (i := 148) (by decide +kernel)
theorem zin_8 : Jvm.Cond.instantiable "PeaceRing$Version" 10 ∈ zT := zat_ok (i := 174) (by decide +kernel)
theorem zin_9 : Jvm.Cond.instantiable "PeaceRing$World" 12 ∈ zT := zat_ok (i := 140) (by decide +kernel)
theorem zin_10 : Jvm.Cond.instantiable "PeaceRing" 10 ∈ zT := zat_ok (i := 132) (by decide +kernel)
theorem zin_11 : Jvm.Cond.instantiable "PeaceRingModel" 38 ∈ zT := zat_ok (i := 1466) (by decide +kernel)
theorem zcl_inst : ∀ (k : Nat) (q : vw_C), zcl[k]? = some q → Jvm.Cond.instantiable q.1 q.2.2 ∈ zT := by
  intro k q h
  match k, h with
  | 0, h => cases h; exact zin_0
  | 1, h => cases h; exact zin_1
  | 2, h => cases h; exact zin_2
  | 3, h => cases h; exact zin_3
  | 4, h => cases h; exact zin_4
  | 5, h => cases h; exact zin_5
  | 6, h => cases h; exact zin_6
  | 7, h => cases h; exact zin_7
  | 8, h => cases h; exact zin_8
  | 9, h => cases h; exact zin_9
  | 10, h => cases h; exact zin_10
  | 11, h => cases h; exact zin_11
  | a + 12, h => simp [zcl] at h
theorem zai_ok : Jvm.Cond.arrayClass .int ∈ zT := zat_ok (i := 173) (by decide +kernel)
theorem zab_ok : Jvm.Cond.arrayClass .byte ∈ zT := zat_ok (i := 356) (by decide +kernel)
