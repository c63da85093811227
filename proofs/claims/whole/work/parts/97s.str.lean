/-! The texts: String.length, String.charAt. -/
section ST
variable {e : List Int32 × Value} {d : Nat} {m : zMm} {a : Nat} {L st : List Value} {mi pc i' b k q : Nat} {c : Int}
theorem p_326_0 : zP1 326 0 = some (.aload_n 0, 0, 0, 0) := zp_l zq_326 rfl
theorem p_326_1 : zP1 326 1 = some (.getfield 9, 41, 0, 0) := zp_r zq_326 rfl
theorem p_326_4 : zP1 326 4 = some (.arraylength, 0, 0, 0) := zp_l zq_326 rfl
theorem p_326_5 : zP1 326 5 = some (.aload_n 0, 0, 0, 0) := zp_l zq_326 rfl
theorem p_326_6 : zP1 326 6 = some (.invokevirtual 335, 328, 0, 41) := zp_r zq_326 rfl
theorem p_326_9 : zP1 326 9 = some (.ishr, 0, 0, 0) := zp_l zq_326 rfl
theorem p_326_10 : zP1 326 10 = some (.ireturn, 0, 0, 0) := zp_l zq_326 rfl
theorem p_327_0 : zP1 327 0 = some (.aload_n 0, 0, 0, 0) := zp_l zq_327 rfl
theorem p_327_1 : zP1 327 1 = some (.invokevirtual 492, 329, 0, 41) := zp_r zq_327 rfl
theorem p_327_4 : zP1 327 4 = some (.ifCond .eq 12, 0, 0, 0) := zp_l zq_327 rfl
theorem p_327_7 : zP1 327 7 = some (.aload_n 0, 0, 0, 0) := zp_l zq_327 rfl
theorem p_327_8 : zP1 327 8 = some (.getfield 9, 41, 0, 0) := zp_r zq_327 rfl
theorem p_327_11 : zP1 327 11 = some (.iload_n 1, 0, 0, 0) := zp_l zq_327 rfl
theorem p_327_12 : zP1 327 12 = some (.invokestatic 495, 331, 2, 0) := zp_r zq_327 rfl
theorem p_327_15 : zP1 327 15 = some (.ireturn, 0, 0, 0) := zp_l zq_327 rfl
theorem p_327_16 : zP1 327 16 = some (.aload_n 0, 0, 0, 0) := zp_l zq_327 rfl
theorem p_327_17 : zP1 327 17 = some (.getfield 9, 41, 0, 0) := zp_r zq_327 rfl
theorem p_327_20 : zP1 327 20 = some (.iload_n 1, 0, 0, 0) := zp_l zq_327 rfl
theorem p_327_24 : zP1 327 24 = some (.ireturn, 0, 0, 0) := zp_l zq_327 rfl
theorem p_328_0 : zP1 328 0 = some (.getstatic 38, 21, 0, 0) := zp_r zq_328 rfl
theorem p_328_3 : zP1 328 3 = some (.ifCond .eq 10, 0, 0, 0) := zp_l zq_328 rfl
theorem p_328_6 : zP1 328 6 = some (.aload_n 0, 0, 0, 0) := zp_l zq_328 rfl
theorem p_328_7 : zP1 328 7 = some (.getfield 15, 41, 1, 0) := zp_r zq_328 rfl
theorem p_328_10 : zP1 328 10 = some (.goto 4, 0, 0, 0) := zp_l zq_328 rfl
theorem p_328_13 : zP1 328 13 = some (.iconst 1, 0, 0, 0) := zp_l zq_328 rfl
theorem p_328_14 : zP1 328 14 = some (.ireturn, 0, 0, 0) := zp_l zq_328 rfl
theorem p_329_0 : zP1 329 0 = some (.getstatic 38, 21, 0, 0) := zp_r zq_329 rfl
theorem p_329_3 : zP1 329 3 = some (.ifCond .eq 14, 0, 0, 0) := zp_l zq_329 rfl
theorem p_329_6 : zP1 329 6 = some (.aload_n 0, 0, 0, 0) := zp_l zq_329 rfl
theorem p_329_7 : zP1 329 7 = some (.getfield 15, 41, 1, 0) := zp_r zq_329 rfl
theorem p_329_10 : zP1 329 10 = some (.ifCond .ne 7, 0, 0, 0) := zp_l zq_329 rfl
theorem p_329_13 : zP1 329 13 = some (.iconst 1, 0, 0, 0) := zp_l zq_329 rfl
theorem p_329_14 : zP1 329 14 = some (.goto 4, 0, 0, 0) := zp_l zq_329 rfl
theorem p_329_17 : zP1 329 17 = some (.iconst 0, 0, 0, 0) := zp_l zq_329 rfl
theorem p_329_18 : zP1 329 18 = some (.ireturn, 0, 0, 0) := zp_l zq_329 rfl
theorem p_330_0 : zP1 330 0 = some (.iload_n 0, 0, 0, 0) := zp_l zq_330 rfl
theorem p_330_1 : zP1 330 1 = some (.iload_n 1, 0, 0, 0) := zp_l zq_330 rfl
theorem p_330_2 : zP1 330 2 = some (.getstatic 1053, 22, 0, 0) := zp_r zq_330 rfl
theorem p_330_5 : zP1 330 5 = some (.invokestatic 1059, 333, 3, 0) := zp_r zq_330 rfl
theorem p_330_8 : zP1 330 8 = some (.pop, 0, 0, 0) := zp_l zq_330 rfl
theorem p_330_9 : zP1 330 9 = some (.return_, 0, 0, 0) := zp_l zq_330 rfl
theorem p_331_0 : zP1 331 0 = some (.iload_n 1, 0, 0, 0) := zp_l zq_331 rfl
theorem p_331_1 : zP1 331 1 = some (.aload_n 0, 0, 0, 0) := zp_l zq_331 rfl
theorem p_331_2 : zP1 331 2 = some (.arraylength, 0, 0, 0) := zp_l zq_331 rfl
theorem p_331_3 : zP1 331 3 = some (.invokestatic 9, 330, 2, 0) := zp_r zq_331 rfl
theorem p_331_6 : zP1 331 6 = some (.aload_n 0, 0, 0, 0) := zp_l zq_331 rfl
theorem p_331_7 : zP1 331 7 = some (.iload_n 1, 0, 0, 0) := zp_l zq_331 rfl
theorem p_331_8 : zP1 331 8 = some (.baload, 0, 0, 0) := zp_l zq_331 rfl
theorem p_331_9 : zP1 331 9 = some (.sipush 255, 0, 0, 0) := zp_l zq_331 rfl
theorem p_331_12 : zP1 331 12 = some (.iand, 0, 0, 0) := zp_l zq_331 rfl
theorem p_331_13 : zP1 331 13 = some (.i2c, 0, 0, 0) := zp_l zq_331 rfl
theorem p_331_14 : zP1 331 14 = some (.ireturn, 0, 0, 0) := zp_l zq_331 rfl
theorem p_333_0 : zP1 333 0 = some (.iload_n 0, 0, 0, 0) := zp_l zq_333 rfl
theorem p_333_1 : zP1 333 1 = some (.ifCond .lt 8, 0, 0, 0) := zp_l zq_333 rfl
theorem p_333_4 : zP1 333 4 = some (.iload_n 0, 0, 0, 0) := zp_l zq_333 rfl
theorem p_333_5 : zP1 333 5 = some (.iload_n 1, 0, 0, 0) := zp_l zq_333 rfl
theorem p_333_6 : zP1 333 6 = some (.if_icmp .lt 10, 0, 0, 0) := zp_l zq_333 rfl
theorem p_333_9 : zP1 333 9 = some (.aload_n 2, 0, 0, 0) := zp_l zq_333 rfl
theorem p_333_10 : zP1 333 10 = some (.iload_n 0, 0, 0, 0) := zp_l zq_333 rfl
theorem p_333_11 : zP1 333 11 = some (.iload_n 1, 0, 0, 0) := zp_l zq_333 rfl
theorem p_333_15 : zP1 333 15 = some (.athrow, 0, 0, 0) := zp_l zq_333 rfl
theorem p_333_16 : zP1 333 16 = some (.iload_n 0, 0, 0, 0) := zp_l zq_333 rfl
theorem p_333_17 : zP1 333 17 = some (.ireturn, 0, 0, 0) := zp_l zq_333 rfl
def txt (a : Nat) : List Int32 := (zbyl[a - 10100]?).getD []
def tch (a : Nat) (i : Int) : Int := ((txt a).getD i.toNat 0).toInt
theorem txt_b : ∀ n : Fin 56, ((zbyl[n.val]?).isSome = true ∧ ((zbyl[n.val]?).getD []).length < 20) ∧ ∀ x ∈ (zbyl[n.val]?).getD [], 0 ≤ x.toInt ∧ x.toInt < 128 := by decide
theorem zb_some (h0 : 10100 ≤ a) (h1 : a < 10156) : zbyl[a - 10100]? = some (txt a) := by
  have q := (txt_b ⟨a - 10100, by omega⟩).1.1
  unfold txt
  revert q
  cases zbyl[a - 10100]? with
  | none => exact fun z => absurd z (by decide)
  | some l => exact fun _ => rfl
theorem txt_len (h0 : 10100 ≤ a) (h1 : a < 10156) : (txt a).length < 20 := (txt_b ⟨a - 10100, by omega⟩).1.2
theorem txt_m (h0 : 10100 ≤ a) (h1 : a < 10156) : ∀ x ∈ txt a, 0 ≤ x.toInt ∧ x.toInt < 128 := (txt_b ⟨a - 10100, by omega⟩).2
theorem getD_m {l : List Int32} {n : Nat} (h : n < l.length) : l.getD n 0 ∈ l := by
  rw [List.getD_eq_getElem?_getD, List.getElem?_eq_getElem h]
  exact List.getElem_mem _
theorem tch_b {i : Int} (h0 : 10100 ≤ a) (h1 : a < 10156) (i0 : 0 ≤ i) (i1 : i < (txt a).length) : 0 ≤ tch a i ∧ tch a i < 128 := by
  have q := txt_m h0 h1
  unfold tch
  generalize txt a = l at q i1
  exact q _ (getD_m (by omega))
theorem zof_v (h0 : 10100 ≤ a) (h1 : a < 10156) : (zE0 e.1 e.2).2.1 a 41 0 = some (.ref (a + 100)) := by
  show zof a 41 0 = _
  unfold zof
  rw [if_neg (by omega), if_pos (by omega)]
  rfl
theorem zof_c (h0 : 10100 ≤ a) (h1 : a < 10156) : (zE0 e.1 e.2).2.1 a 41 1 = some (.int (iI 0)) := by
  show zof a 41 1 = _
  unfold zof
  rw [if_neg (by omega), if_pos (by omega)]
  rfl
theorem zis_s (h0 : 10100 ≤ a) (h1 : a < 10156) : zisS (zE0 e.1 e.2) a = true := by
  unfold zisS
  rw [zof_v h0 h1, decide_eq_true (by omega : 10000 ≤ a)]
  rfl
theorem zsa_v (h0 : 10100 ≤ a) (h1 : a < 10156) : (zE0 e.1 e.2).2.2.1 (a + 100) = some (1, txt a) := by
  show zsa e.1 (a + 100) = _
  unfold zsa
  rw [if_neg (by omega), if_neg (by omega), if_pos (by omega), show a + 100 - 10200 = a - 10100 by omega, zb_some h0 h1]
  rfl
theorem s_getg {v : Value} {a' : Nat} (hp : zP1 mi pc = some (.getfield i', a', b, c)) (ha : ¬ a' < 40) (hv : (zE0 e.1 e.2).2.1 k a' b = some v) : Z e d mi pc L (.ref k :: st) m = Z e d mi (pc + 3) L (v :: st) m := by
  unfold Z
  rw [rv_getg hp ha, hv]
  rfl
theorem s_glen1 {xs : List Int32} {a' : Nat} (hp : zP1 mi pc = some (.arraylength, a', b, c)) (hk : 10000 ≤ k) (ha : (zE0 e.1 e.2).2.2.1 k = some (1, xs)) : Z e d mi pc L (.ref k :: st) m = Z e d mi (pc + 1) L (.int (iI xs.length) :: st) m := by
  unfold Z
  rw [rv_alen hp]
  unfold zln zarr
  rw [if_pos hk, ha]
  rfl
theorem s_gbar {xs : List Int32} {a' : Nat} {x : Int} (hp : zP1 mi pc = some (.baload, a', b, c)) (hk : 10000 ≤ k) (ha : (zE0 e.1 e.2).2.2.1 k = some (1, xs)) (h0 : 0 ≤ x) (h1 : x < xs.length) (h2 : wr x = x) : Z e d mi pc L (.int (iI x) :: .ref k :: st) m = Z e d mi (pc + 1) L (.int (iI (xs.getD x.toNat 0).toInt) :: st) m := by
  unfold Z
  rw [rv_ald (Or.inr ⟨rfl, rfl⟩) hp]
  unfold zgi zarr
  rw [if_pos hk, ha]
  simp only [if_true]
  rw [zix_iI (by rw [h2]; exact h0) (by rw [h2]; exact h1), iI_of, h2]
  rfl
theorem fin_of {x : Int} (h0 : 0 ≤ x) (h1 : x < 128) : ∃ n : Fin 128, (n.val : Int) = x := ⟨⟨x.toNat, by omega⟩, by show (x.toNat : Int) = x; omega⟩
theorem ch_nar : ∀ n : Fin 128, narrow .char (.int (iI (n.val : Int))) = .int (iI (n.val : Int)) := by decide
theorem ch_i2c : ∀ n : Fin 128, (iI (n.val : Int)).toUInt32 % 65536 = (iI (n.val : Int)).toUInt32 ∧ (iI (n.val : Int)).toUInt32.toInt32 = iI (n.val : Int) ∧ jand (n.val : Int) 255 = (n.val : Int) := by decide
theorem S_coder (h0 : 10100 ≤ a) (h1 : a < 10156) : Z e d 328 0 [.ref a] [] m = ri 0 m := by
  refine (s_gets (v := .int (iI 1)) p_328_0 rfl).trans <| (s_z_eq_t p_328_3 rfl rfl).trans ?_
  rw [if_neg (by decide)]
  exact (s_al_0 p_328_6).trans <| (s_getg p_328_7 (by decide) (zof_c h0 h1)).trans <| (s_goto p_328_10 rfl).trans <| Eq.trans (rv_rets p_328_14 (zM_of zq_328)) (if_pos rfl)
theorem S_latin (h0 : 10100 ≤ a) (h1 : a < 10156) : Z e d 329 0 [.ref a] [] m = ri 1 m := by
  refine (s_gets (v := .int (iI 1)) p_329_0 rfl).trans <| (s_z_eq_t p_329_3 rfl rfl).trans ?_
  rw [if_neg (by decide)]
  refine (s_al_0 p_329_6).trans <| (s_getg p_329_7 (by decide) (zof_c h0 h1)).trans <| (s_z_ne_t p_329_10 rfl rfl).trans ?_
  rw [if_neg (by decide)]
  exact (s_const p_329_13).trans <| (s_goto p_329_14 rfl).trans <| (s_retk rfl p_329_18 (zM_of zq_329))
theorem S_len (h0 : 10100 ≤ a) (h1 : a < 10156) : Z e (d + 1) 326 0 [.ref a] [] m = ri (txt a).length m := by
  have hl := txt_len h0 h1
  refine (s_al_0 p_326_0).trans <| (s_getg p_326_1 (by decide) (zof_v h0 h1)).trans <| (s_glen1 p_326_4 (by omega) (zsa_v h0 h1)).trans <| (s_al_0 p_326_5).trans <| (s_cg0 (Lc := [.ref a]) p_326_6 (by decide) (zM_of zq_328) ⟨Nat.le_of_ble_eq_true rfl, Nat.le_of_ble_eq_true rfl⟩ rfl (zis_s h0 h1)).trans ?_
  rw [S_coder h0 h1, ri_k]
  refine (s_ishr p_326_9).trans ?_
  have q : jshr ((txt a).length : Int) 0 = (txt a).length := by
    have : ∀ n : Fin 20, jshr ((n.val : Nat) : Int) 0 = (n.val : Nat) := by decide
    generalize (txt a).length = n at hl
    exact this ⟨n, hl⟩
  rw [q]
  exact s_reti p_326_10 (zM_of zq_326)
theorem S_check {i n : Int} {v : Value} (i0 : 0 ≤ i) (i1 : i < n) (n1 : n < 1000) : Z e d 333 0 [.int (iI i), .int (iI n), v] [] m = ri i m := by
  refine (s_il_0 p_333_0).trans <| (s_z_lt_t p_333_1 rfl (wr_of (x := i) (by omega) (by omega))).trans ?_
  rw [if_neg (by omega)]
  refine (s_il_0 p_333_4).trans <| (s_il_1 p_333_5).trans <| (s_c_lt_t p_333_6 rfl (wr_of (x := i) (by omega) (by omega)) (wr_of (x := n) (by omega) (by omega))).trans ?_
  rw [if_pos i1]
  exact (s_il_0 p_333_16).trans <| s_reti p_333_17 (zM_of zq_333)
theorem S_checkS {i n : Int} (hv : e.2 = .null ∨ e.2 = .ref 10301) (i0 : 0 ≤ i) (i1 : i < n) (n1 : n < 1000) : Z e (d + 1) 330 0 [.int (iI i), .int (iI n)] [] m = rn m := by
  refine (s_il_0 p_330_0).trans <| (s_il_1 p_330_1).trans <| (s_gets (v := e.2) p_330_2 rfl).trans ?_
  have he : zargs [.int (iI i), .int (iI n), e.2] = [.int (iI i), .int (iI n), e.2] := by
    rcases hv with z | z <;> rw [z] <;> rfl
  refine (s_cs3 (Lc := [.int (iI i), .int (iI n), e.2]) p_330_5 (by decide) (zM_of zq_333) ⟨by rw [he]; exact Nat.le_of_ble_eq_true rfl, Nat.le_of_ble_eq_true rfl⟩ (by unfold zent; rw [he]; rfl)).trans ?_
  rw [S_check i0 i1 n1, ri_k]
  exact (s_pop rfl p_330_8).trans <| s_retv p_330_9 (zM_of zq_330)
theorem S_charL {i : Int} (hv : e.2 = .null ∨ e.2 = .ref 10301) (h0 : 10100 ≤ a) (h1 : a < 10156) (i0 : 0 ≤ i) (i1 : i < (txt a).length) : Z e (d + 2) 331 0 [.ref (a + 100), .int (iI i)] [] m = ri (tch a i) m := by
  have hl := txt_len h0 h1
  have hb := tch_b h0 h1 i0 i1
  refine (s_il_1 p_331_0).trans <| (s_al_0 p_331_1).trans <| (s_glen1 p_331_2 (by omega) (zsa_v h0 h1)).trans <| (s_cs2 (Lc := [.int (iI i), .int (iI (txt a).length)]) p_331_3 (by decide) (zM_of zq_330) ⟨Nat.le_of_ble_eq_true rfl, Nat.le_of_ble_eq_true rfl⟩ rfl).trans ?_
  rw [S_checkS hv i0 i1 (by omega), rn_k]
  refine (s_al_0 p_331_6).trans <| (s_il_1 p_331_7).trans <| (s_gbar p_331_8 (by omega) (zsa_v h0 h1) i0 i1 (wr_of (by omega) (by omega))).trans <| (s_sip p_331_9 rfl).trans <| (s_iand p_331_12).trans ?_
  show Z e (d + 2) 331 13 _ [.int (iI (jand (tch a i) 255))] m = _
  obtain ⟨n, hn⟩ : ∃ n : Fin 128, (n.val : Int) = tch a i := fin_of hb.1 hb.2
  rw [← hn, (ch_i2c n).2.2]
  refine (rv_stk (st' := [.int (iI (n.val : Int))]) p_331_13 rfl ?_).trans (Eq.trans (rv_rets p_331_14 (zM_of zq_331)) (if_pos (ch_nar n)))
  show some [Value.int (((iI (n.val : Int)).toUInt32 % 65536).toInt32)] = _
  rw [(ch_i2c n).1, (ch_i2c n).2.1]
theorem S_char {i : Int} (hv : e.2 = .null ∨ e.2 = .ref 10301) (h0 : 10100 ≤ a) (h1 : a < 10156) (i0 : 0 ≤ i) (i1 : i < (txt a).length) : Z e (d + 3) 327 0 [.ref a, .int (iI i)] [] m = ri (tch a i) m := by
  have hb := tch_b h0 h1 i0 i1
  refine (s_al_0 p_327_0).trans <| (s_cg0 (Lc := [.ref a]) p_327_1 (by decide) (zM_of zq_329) ⟨Nat.le_of_ble_eq_true rfl, Nat.le_of_ble_eq_true rfl⟩ rfl (zis_s h0 h1)).trans ?_
  rw [S_latin h0 h1, ri_k]
  refine (s_z_eq_t p_327_4 rfl rfl).trans ?_
  rw [if_neg (by decide)]
  refine (s_al_0 p_327_7).trans <| (s_getg p_327_8 (by decide) (zof_v h0 h1)).trans <| (s_il_1 p_327_11).trans <| (s_cs2 (Lc := [.ref (a + 100), .int (iI i)]) p_327_12 (by decide) (zM_of zq_331) ⟨Nat.le_of_ble_eq_true rfl, Nat.le_of_ble_eq_true rfl⟩ rfl).trans ?_
  rw [S_charL hv h0 h1 i0 i1, ri_k]
  obtain ⟨n, hn⟩ : ∃ n : Fin 128, (n.val : Int) = tch a i := fin_of hb.1 hb.2
  rw [← hn]
  exact Eq.trans (rv_rets p_327_15 (zM_of zq_327)) (if_pos (ch_nar n))
end ST
