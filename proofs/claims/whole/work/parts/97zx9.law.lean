/-! The law: its loop. -/
section LW
variable {e : List Int32 × Value} {d : Nat} {m : zMm}
theorem lsl_or {α : Type} {x : Int} {D : α} {f : Nat → α} : ∀ ts : List (Int × Nat), lsl x D f ts = D ∨ ∃ q ∈ ts, lsl x D f ts = f q.2 := by
  intro ts
  induction ts with
  | nil => exact Or.inl rfl
  | cons q ts ih =>
    unfold lsl
    by_cases z : x = q.1
    · rw [if_pos z]; exact Or.inr ⟨q, List.mem_cons_self, rfl⟩
    · rw [if_neg z]
      rcases ih with h | ⟨p, h1, h2⟩
      · exact Or.inl h
      · exact Or.inr ⟨p, List.mem_cons_of_mem _ h1, h2⟩
theorem law_case {i x : Int} (hI : Inv m) (hv : e.2 = .null ∨ e.2 = .ref 10301) (hx : ∀ k : Int, 0 ≤ k → k ≤ 6 → 0 ≤ wr (i + k) ∧ wr (i + k) < e.1.length) : ∃ m2, Inv m2 ∧ Z e 200 0 33 [.ref 10303, .ref 0, .ref 246, .int (iI i)] [.int (iI x)] m = Z e 200 0 2145 [.ref 10303, .ref 0, .ref 246, .int (iI i)] [] m2 := by
  have all : ∀ q ∈ ([(0, 268), (1, 291), (2, 324), (3, 367), (4, 400), (5, 433), (6, 466), (7, 499), (8, 532), (9, 565), (10, 628), (11, 651), (12, 674), (13, 707), (14, 740), (15, 815), (16, 858), (17, 901), (18, 954), (19, 1007), (20, 1040), (21, 1063), (22, 1086), (23, 1119), (24, 1142), (25, 1185), (26, 1218), (27, 1251), (28, 1284), (29, 1337), (30, 1370), (31, 1403), (32, 1456), (33, 1489), (34, 1532), (35, 1545), (36, 1558), (37, 1581), (38, 1594), (39, 1627), (40, 1660), (41, 1703), (42, 1726), (43, 1759), (44, 1792), (45, 1835), (46, 1878), (47, 1921), (48, 1954), (49, 1997), (50, 2030), (51, 2073), (52, 2096), (53, 2119), (54, 2132)] : List (Int × Nat)), ∃ m2, Inv m2 ∧ Z e 200 0 q.2 [.ref 10303, .ref 0, .ref 246, .int (iI i)] [] m = Z e 200 0 2145 [.ref 10303, .ref 0, .ref 246, .int (iI i)] [] m2 := List.forall_mem_cons.mpr ⟨lw_0 hI hv hx, List.forall_mem_cons.mpr ⟨lw_1 hI hv hx, List.forall_mem_cons.mpr ⟨lw_2 hI hv hx, List.forall_mem_cons.mpr ⟨lw_3 hI hv hx, List.forall_mem_cons.mpr ⟨lw_4 hI hv hx, List.forall_mem_cons.mpr ⟨lw_5 hI hv hx, List.forall_mem_cons.mpr ⟨lw_6 hI hv hx, List.forall_mem_cons.mpr ⟨lw_7 hI hv hx, List.forall_mem_cons.mpr ⟨lw_8 hI hv hx, List.forall_mem_cons.mpr ⟨lw_9 hI hv hx, List.forall_mem_cons.mpr ⟨lw_10 hI hv hx, List.forall_mem_cons.mpr ⟨lw_11 hI hv hx, List.forall_mem_cons.mpr ⟨lw_12 hI hv hx, List.forall_mem_cons.mpr ⟨lw_13 hI hv hx, List.forall_mem_cons.mpr ⟨lw_14 hI hv hx, List.forall_mem_cons.mpr ⟨lw_15 hI hv hx, List.forall_mem_cons.mpr ⟨lw_16 hI hv hx, List.forall_mem_cons.mpr ⟨lw_17 hI hv hx, List.forall_mem_cons.mpr ⟨lw_18 hI hv hx, List.forall_mem_cons.mpr ⟨lw_19 hI hv hx, List.forall_mem_cons.mpr ⟨lw_20 hI hv hx, List.forall_mem_cons.mpr ⟨lw_21 hI hv hx, List.forall_mem_cons.mpr ⟨lw_22 hI hv hx, List.forall_mem_cons.mpr ⟨lw_23 hI hv hx, List.forall_mem_cons.mpr ⟨lw_24 hI hv hx, List.forall_mem_cons.mpr ⟨lw_25 hI hv hx, List.forall_mem_cons.mpr ⟨lw_26 hI hv hx, List.forall_mem_cons.mpr ⟨lw_27 hI hv hx, List.forall_mem_cons.mpr ⟨lw_28 hI hv hx, List.forall_mem_cons.mpr ⟨lw_29 hI hv hx, List.forall_mem_cons.mpr ⟨lw_30 hI hv hx, List.forall_mem_cons.mpr ⟨lw_31 hI hv hx, List.forall_mem_cons.mpr ⟨lw_32 hI hv hx, List.forall_mem_cons.mpr ⟨lw_33 hI hv hx, List.forall_mem_cons.mpr ⟨lw_34 hI hv hx, List.forall_mem_cons.mpr ⟨lw_35 hI hv hx, List.forall_mem_cons.mpr ⟨lw_36 hI hv hx, List.forall_mem_cons.mpr ⟨lw_37 hI hv hx, List.forall_mem_cons.mpr ⟨lw_38 hI hv hx, List.forall_mem_cons.mpr ⟨lw_39 hI hv hx, List.forall_mem_cons.mpr ⟨lw_40 hI hv hx, List.forall_mem_cons.mpr ⟨lw_41 hI hv hx, List.forall_mem_cons.mpr ⟨lw_42 hI hv hx, List.forall_mem_cons.mpr ⟨lw_43 hI hv hx, List.forall_mem_cons.mpr ⟨lw_44 hI hv hx, List.forall_mem_cons.mpr ⟨lw_45 hI hv hx, List.forall_mem_cons.mpr ⟨lw_46 hI hv hx, List.forall_mem_cons.mpr ⟨lw_47 hI hv hx, List.forall_mem_cons.mpr ⟨lw_48 hI hv hx, List.forall_mem_cons.mpr ⟨lw_49 hI hv hx, List.forall_mem_cons.mpr ⟨lw_50 hI hv hx, List.forall_mem_cons.mpr ⟨lw_51 hI hv hx, List.forall_mem_cons.mpr ⟨lw_52 hI hv hx, List.forall_mem_cons.mpr ⟨lw_53 hI hv hx, List.forall_mem_cons.mpr ⟨lw_54 hI hv hx, List.forall_mem_nil _⟩⟩⟩⟩⟩⟩⟩⟩⟩⟩⟩⟩⟩⟩⟩⟩⟩⟩⟩⟩⟩⟩⟩⟩⟩⟩⟩⟩⟩⟩⟩⟩⟩⟩⟩⟩⟩⟩⟩⟩⟩⟩⟩⟩⟩⟩⟩⟩⟩⟩⟩⟩⟩⟩⟩
  have st : Z e 200 0 33 [.ref 10303, .ref 0, .ref 246, .int (iI i)] [.int (iI x)] m = _ := s_tsw (ts := [(0, 268), (1, 291), (2, 324), (3, 367), (4, 400), (5, 433), (6, 466), (7, 499), (8, 532), (9, 565), (10, 628), (11, 651), (12, 674), (13, 707), (14, 740), (15, 815), (16, 858), (17, 901), (18, 954), (19, 1007), (20, 1040), (21, 1063), (22, 1086), (23, 1119), (24, 1142), (25, 1185), (26, 1218), (27, 1251), (28, 1284), (29, 1337), (30, 1370), (31, 1403), (32, 1456), (33, 1489), (34, 1532), (35, 1545), (36, 1558), (37, 1581), (38, 1594), (39, 1627), (40, 1660), (41, 1703), (42, 1726), (43, 1759), (44, 1792), (45, 1835), (46, 1878), (47, 1921), (48, 1954), (49, 1997), (50, 2030), (51, 2073), (52, 2096), (53, 2119), (54, 2132)]) (td := 2145) p_0_33 rfl (by decide) rfl rfl
  rcases lsl_or (x := wr x) (D := Z e 200 0 2145 [.ref 10303, .ref 0, .ref 246, .int (iI i)] [] m) (f := fun t => Z e 200 0 t [.ref 10303, .ref 0, .ref 246, .int (iI i)] [] m) [(0, 268), (1, 291), (2, 324), (3, 367), (4, 400), (5, 433), (6, 466), (7, 499), (8, 532), (9, 565), (10, 628), (11, 651), (12, 674), (13, 707), (14, 740), (15, 815), (16, 858), (17, 901), (18, 954), (19, 1007), (20, 1040), (21, 1063), (22, 1086), (23, 1119), (24, 1142), (25, 1185), (26, 1218), (27, 1251), (28, 1284), (29, 1337), (30, 1370), (31, 1403), (32, 1456), (33, 1489), (34, 1532), (35, 1545), (36, 1558), (37, 1581), (38, 1594), (39, 1627), (40, 1660), (41, 1703), (42, 1726), (43, 1759), (44, 1792), (45, 1835), (46, 1878), (47, 1921), (48, 1954), (49, 1997), (50, 2030), (51, 2073), (52, 2096), (53, 2119), (54, 2132)] with h | ⟨q, h1, h2⟩
  · exact ⟨m, hI, st.trans h⟩
  · obtain ⟨m2, a, b⟩ := all q h1
    exact ⟨m2, a, (st.trans h2).trans b⟩
theorem law_loop (hv : e.2 = .null ∨ e.2 = .ref 10301) (hl : e.1.length ≤ 448) : ∀ (N : Nat) (i : Int) (m : zMm), e.1.length - i ≤ N → 0 ≤ i → i ≤ 455 → Inv m → ∃ m', Z e 200 0 18 [.ref 10303, .ref 0, .ref 246, .int (iI i)] [] m = ri 1 m' := by
  intro N
  induction N with
  | zero =>
    intro i m hN i0 i1 hI
    refine ⟨m, (s_il_3 p_0_18).trans <| (s_al_0 p_0_19).trans <| (s_scl p_0_20).trans <| (s_bip p_0_21 rfl).trans <| (s_isub p_0_23).trans <| (s_c_gt_t p_0_24 rfl (wr_of (x := i) (by omega) (by omega)) (wr_of (x := (e.1.length : Int) - 7) (by omega) (by omega))).trans ?_⟩
    rw [if_pos (by omega)]
    exact (s_const p_0_2151).trans (s_retk rfl p_0_2152 (zM_of zq_0))
  | succ N ih =>
    intro i m hN i0 i1 hI
    have st : Z e 200 0 18 [.ref 10303, .ref 0, .ref 246, .int (iI i)] [] m = _ := (s_il_3 p_0_18).trans <| (s_al_0 p_0_19).trans <| (s_scl p_0_20).trans <| (s_bip p_0_21 rfl).trans <| (s_isub p_0_23).trans <| (s_c_gt_t p_0_24 rfl (wr_of (x := i) (by omega) (by omega)) (wr_of (x := (e.1.length : Int) - 7) (by omega) (by omega)))
    by_cases q : (e.1.length : Int) - 7 < i
    · rw [if_pos q] at st
      exact ⟨m, st.trans <| (s_const p_0_2151).trans (s_retk rfl p_0_2152 (zM_of zq_0))⟩
    · rw [if_neg q] at st
      have hx : ∀ k : Int, 0 ≤ k → k ≤ 6 → 0 ≤ wr (i + k) ∧ wr (i + k) < e.1.length := fun k k0 k1 => by
        rw [wr_of (x := i + k) (by omega) (by omega)]
        omega
      have h0 : 0 ≤ wr i ∧ wr i < e.1.length := by
        rw [wr_of (x := i) (by omega) (by omega)]
        omega
      obtain ⟨m2, a1, a2⟩ := law_case (e := e) (m := m) (i := i) (x := jand (zscr e (wr i)) 63) hI hv hx
      obtain ⟨m3, b1⟩ := ih (i + 7) m2 (by omega) (by omega) (by omega) a1
      exact ⟨m3, st.trans <| (s_al_0 p_0_27).trans <| (s_il_3 p_0_28).trans <| ((s_scr p_0_29).trans (ck_t h0)).trans <| (s_bip p_0_30 rfl).trans <| (s_iand p_0_32).trans <| a2.trans <| (s_inc_3 rfl p_0_2145).trans <| (s_goto p_0_2148 rfl).trans b1⟩
end LW
