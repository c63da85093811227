section ZC
variable {p : Program} {l : Launch} {e : Env} {R : Room} {s : State} {m : MethodId} {args : Array Value} {below : List Frame} {meth : Method} {c : Code} {H : Heap} {locs : List Loc} {cells slots : Nat} {Q : State → Prop}
variable {cc : ByteArray} {pc : Nat} {ls : Array Slot} {ad : Nat → Nat} {dA : Nat → ClassId} {D : va_G} {cl : List vw_C} {zT zN : List Jvm.Cond} {E : zS} {F : zNm} {A : Nat → Prop} {own : String} {P : zP} {M : zM}
theorem z_callW {h h' : zH} {r : Option Value} {mc ms : Nat} {st0 rest : List Value} {av : Array Value} (hr : va_Run p l e R s m args below meth c H locs cells slots mc ms (F0 m pc ls st0) rest (zQc D cl dA ad h H.size r h' av) (va_A (zw dA ad h) H.size)) (hS : va_S A s.heap H locs) (hF : ∀ q, va_A (zw dA ad h) H.size q → A q)
    (kk : ∀ (ad' : Nat → Nat) (H1 : Heap) (locs1 : List Loc), (∀ i, i < h.length ∨ h'.length ≤ i → ad' i = ad i) → h'.length ≤ 9000 → va_P D cl (zw dA ad' h') H1 → va_D A (zw dA ad' h') → va_S A s.heap H1 locs1 → W p l e R s m args below meth c H1 locs1 (cells + mc) (slots + ms) Q (F0 m (pc + 3) ls (r.toList.map (zv ad') ++ rest))) : W p l e R s m args below meth c H locs cells slots Q (F0 m pc ls st0) := by
  intro T hT X
  obtain ⟨v, st₀, t, T', L, h0, X', hL, e1, e2, ⟨ad', q1, q2, hv, q3, q4, hz, hk⟩, stp⟩ := hr T hT X
  cases hv
  rw [h0] at hz hk
  have hS' : va_S A s.heap T'.heap (locs ++ L) := ⟨Nat.le_trans hS.1 (by rw [e1]; exact hz), fun q h1 h2 => by rw [e1, hk q (Nat.lt_of_lt_of_le h1 hS.1) (fun z => h2 (hF q z))]; exact hS.2.1 q h1 h2, fun q hq => by
    rcases List.mem_append.mp hq with h | h
    · exact hS.2.2 q h
    · exact hF _ (hL q h)⟩
  obtain ⟨t2, a1, b1⟩ := kk ad' T'.heap (locs ++ L) q1 q2 (by rw [e1]; exact q3) (q4.weaken (fun _ q _ hq => hF q.1 hq)) hS' T' rfl X'
  refine ⟨t2, stp t2 ?_, b1⟩
  rw [zv_toList] at a1
  exact a1
theorem z_good (hM : zokM M zT) {mi : Nat} (h1 : 1 ≤ mi) {y : MethodName} {bt : ByteArray} {nL : Nat} {ret : Option FieldType} (hmi : M mi = some (y, bt, nL, ret)) : GoodIn zT (Jvm.Cond.code y bt nL ret :: zT) := by
  intro w hw
  rcases List.mem_cons.mp hw with rfl | hw
  · have := (hM.1 _ _ _ _ _ hmi h1).1
    exact ⟨this, hM.2 _ this⟩
  · exact ⟨hw, hM.2 _ hw⟩
set_option maxHeartbeats 2000000 in
/-- a call -/
theorem z_call {nL : Nat} (hM : zokM M zT) (B : zB p R s m args c cc nL own D cl dA zT zN A) (hG : zG E F zN ad A s s.heap) (hG2 : zG2 E ad A s s.heap) {h h1 : zH} {L st as rest : List Value} (hI : zI D cl dA A s nL ad h H locs ls L) {n : Nat} (hn : zOK P M E F zN zT D cl dA l n)
    {ins : Instr} {a b d' : Nat} {cI : Int} (hd : decode cc pc = .ok (ins, 3)) (ho : zokC cl M zT zN own ins a b cI) (has : zas E ins b cI st h = some (as, rest)) {y' : MethodName} {bt' : ByteArray} {nL' : Nat} {ret' : Option FieldType} (hmi : M a = some (y', bt', nL', ret')) (hal : (zargs as).length ≤ nL') (hcs : zcs rest ≤ 8)
    (hfr : d' + 2 ≤ R.frames) (hlo : 100 * (d' + 3) ≤ R.locals) {r1 : Option Value} (hs : zexec P M E n d' a 0 (zent nL' as) [] h = some (r1, h1)) (hrc : cells + (h1.length - h.length) ≤ R.cells) (hrs : slots + (zslots h1 - zslots h) ≤ R.slots)
    (kk : ∀ (ad' : Nat → Nat) (H1 : Heap) (locs1 : List Loc), (∀ i, i < h.length ∨ h1.length ≤ i → ad' i = ad i) → h1.length ≤ 9000 → va_P D cl (zw dA ad' h1) H1 → va_D A (zw dA ad' h1) → va_S A s.heap H1 locs1 → W p l e R s m args below meth c H1 locs1 (cells + (h1.length - h.length)) (slots + (zslots h1 - zslots h)) Q (F0 m (pc + 3) ls (r1.toList.map (zv ad') ++ rest.map (zv ad)))) : W p l e R s m args below meth c H locs cells slots Q (F0 m pc ls (st.map (zv ad))) := by
  obtain ⟨hx, hb, hml, hown, hts, hC, hK, hA, -, -⟩ := B
  obtain ⟨hlen, hP, hD, hS, hl⟩ := hI
  obtain ⟨y, bt, n0, r0, ha1, hmi2, hdesc, ho⟩ := ho
  rw [hmi] at hmi2
  cases hmi2
  obtain ⟨m1, m2, m3, m4, m5⟩ := hM.1 _ _ _ _ _ hmi ha1
  have hF : ∀ q, va_A (zw dA ad h) H.size q → A q := by
    intro q hq
    rcases hq with ⟨k, e, hk⟩ | hq
    · exact hD.2 k _ hk
    · exact hA q (Nat.le_trans hS.1 hq)
  have hMet := z_met hM hC hn ha1 hmi hal hs ad H.size
  have hgood := z_good hM ha1 hmi
  have hR : (zrm d' (h1.length - h.length) (zslots h1 - zslots h)).frames + 1 ≤ R.frames ∧ 8 + (nL' + 11) + (zrm d' (h1.length - h.length) (zslots h1 - zslots h)).locals ≤ R.locals := by
    refine ⟨?_, ?_⟩
    · show d' + 1 + 1 ≤ R.frames; omega
    · show 8 + (nL' + 11) + 100 * (d' + 2) ≤ R.locals; omega
  have hPc : ∀ U : State, U.heap = H → s.WarmedH U.vm → zPc E F zN D cl dA ad as h H.size (as.map (zv ad)).toArray U := fun U hU hW =>
    ⟨rfl, by rw [hU], hlen, by rw [hU]; exact hP, va_K.moved hW.alike hK, hD.weaken (fun _ _ _ _ => trivial), zG_warm hC hW (fun q h1 h2 => by rw [hU]; exact hS.2.1 q h1 h2) hF hG, zG2_warm hW (fun q h1 h2 => by rw [hU]; exact hS.2.1 q h1 h2) hF hG2⟩
  have hblind := zPc_blind (E := E) (F := F) hC (D := D) (dA := dA) (ad := ad) (as := as) (h := h) (sz := H.size)
  have hfix : CallFix p m c cc nL s args zT own := ⟨hx, hb, hml, hown, hts⟩
  have hroom : 2 * (F0 m pc ls (st.map (zv ad))).monitorRoom + ((rest.map (zv ad)).map fun v => v.category).sum ≤ 8 := by
    rw [zcs_map]
    show 2 * 0 + _ ≤ 8
    omega
  have hini : (Jvm.Cond.initialized y'.cls).before args s = true := hts _ m3
  have hdd : y'.cls ≠ "java/lang/invoke/MethodHandle" ∧ y'.cls ≠ "java/lang/invoke/VarHandle" ∧ (parseMethodDescriptor y'.desc).map (fun d => d.parameters.length) = some b := ⟨m4.1, m4.2, hdesc⟩
  have hsz : (F0 m pc ls (st.map (zv ad))).locals.size = nL := hl.1.1
  unfold zas at has
  split at has
  case isFalse => cases has
  case isTrue hbl =>
    have hsplit : st = st.take b ++ st.drop b := (List.take_append_drop b st).symm
    split at has
    · rename_i i rest' 
      cases has
      obtain ⟨o1, o2⟩ := ho
      have hstack : (F0 m pc ls (st.map (zv ad))).stack = (((st.take b).reverse).map (zv ad)).reverse ++ (st.drop b).map (zv ad) := by
        show st.map (zv ad) = _
        rw [← List.map_reverse, List.reverse_reverse, ← List.map_append, List.take_append_drop]
      have hnl : (((st.take b).reverse).map (zv ad)).length = b := by simp; omega
      rcases o1 with o1 | ⟨host, o1⟩
      · exact z_callW (va_runS hfix hMet ⟨callB_of b hts hgood rfl rfl rfl hini (hts _ o1) hdd hR, hts _ o2⟩ ⟨hblind, hPc⟩ rfl hnl hsz hstack hroom hd ⟨hrc, hrs⟩) hS hF kk
      · exact z_callW (va_runSN hfix hMet ⟨va_cnB b hts hgood rfl rfl rfl (hG.2.2.2.2.2.2.2 _ o1) hini hdd hR, hts _ o2, trivial⟩ ⟨hblind, hPc⟩ rfl hnl hsz hstack hroom hd ⟨hrc, hrs⟩) hS hF kk
    · rename_i i q rest' hdrop
      cases has
      obtain ⟨o1, o2, o3, rfl⟩ := ho
      have hstack : (F0 m pc ls (st.map (zv ad))).stack = (((st.take b).reverse).map (zv ad)).reverse ++ .ref (ad q) :: rest.map (zv ad) := by
        show st.map (zv ad) = _
        rw [← List.map_reverse, List.reverse_reverse]
        conv => lhs; rw [hsplit, hdrop]
        simp [zv]
      have hnl : (((st.take b).reverse).map (zv ad)).length = b := by simp; omega
      rcases o1 with o1 | ⟨host, o1⟩
      · exact z_callW (va_runI hfix hMet ⟨callB_of b hts hgood rfl rfl rfl hini (hts _ o1) hdd hR, o2, hts _ o3⟩ ⟨hblind, hPc⟩ rfl hnl hsz hstack hroom hd ⟨hrc, hrs⟩) hS hF kk
      · exact z_callW (va_runIN hfix hMet ⟨va_cnB b hts hgood rfl rfl rfl (hG.2.2.2.2.2.2.2 _ o1) hini hdd hR, o2, hts _ o3⟩ ⟨hblind, hPc⟩ rfl hnl hsz hstack hroom hd ⟨hrc, hrs⟩) hS hF kk
    · rename_i i q rest' hdrop
      obtain ⟨C, o1, o2, o3, o4⟩ := ho
      have hstack : (F0 m pc ls (st.map (zv ad))).stack = (((st.take b).reverse).map (zv ad)).reverse ++ .ref (ad q) :: rest'.map (zv ad) := by
        show st.map (zv ad) = _
        rw [← List.map_reverse, List.reverse_reverse]
        conv => lhs; rw [hsplit, hdrop]
        simp [zv]
      have hnl : (((st.take b).reverse).map (zv ad)).length = b := by simp; omega
      have key : as = .ref q :: (st.take b).reverse → rest = rest' → (∃ cellB : Cell, H[ad q]? = some cellB ∧ cellB.vm.isStatics = false ∧ s.vm.findClass C = some cellB.cls) → W p l e R s m args below meth c H locs cells slots Q (F0 m pc ls (st.map (zv ad))) := by
        intro eas ere hrecv
        subst eas
        subst ere
        rcases o1 with o1 | ⟨host, o1⟩
        · exact z_callW (va_runV hfix hMet ⟨callB_of b hts hgood rfl rfl rfl hini (hts _ o1) hdd hR, hts _ o2, hts _ o3⟩ ⟨hblind, hrecv, hPc⟩ rfl hnl hsz hstack hroom hd ⟨hrc, hrs⟩) hS hF kk
        · exact z_callW (va_runVN hfix hMet ⟨va_cnB b hts hgood rfl rfl rfl (hG.2.2.2.2.2.2.2 _ o1) hini hdd hR, hts _ o2, hts _ o3⟩ ⟨hblind, hrecv, hPc⟩ rfl hnl hsz hstack hroom hd ⟨hrc, hrs⟩) hS hF kk
      split at has
      · rename_i hc41
        split at has
        · rename_i hstr
          cases has
          rcases o4 with ⟨-, rfl⟩ | ⟨o4, -⟩
          · exact key rfl rfl (va_Orecv (hG.2.2.2.2.2.1 q hstr) hS)
          · exact absurd hc41 o4
        · cases has
      · rename_i hc41
        split at has
        · rename_i ci fs hq
          split at has
          · rename_i hci
            cases has
            rcases o4 with ⟨o4, -⟩ | ⟨-, T, N, o4⟩
            · exact absurd o4 hc41
            · have hw := zw_get (dA := dA) (ad := ad) hq
              have hlt : ci < 50 := by omega
              simp only [ze, hlt, if_true] at hw
              have e1 : cI.toNat = ci := by omega
              rw [e1] at o4
              exact key rfl rfl (va_recv hK hP o4 hw)
          · cases has
        · cases has
    · cases has
set_option maxHeartbeats 2000000 in
/-- EVERY run -/
theorem z_all (hM : zokM M zT) (hPk : zokP cl P M E F zT zN) (hC : zokc cl zT zN) : ∀ n, zOK P M E F zN zT D cl dA l n := by
  intro n
  induction n with
  | zero => intro d mi pc L st h h' r hs; cases hs
  | succ n ih =>
    intro d mi pc L st h h' r hs p e R s m args below meth c y bt nL ret A ad H locs ls cells slots Q hmi B hnm hfr hlo hG hG2 hI hrc hrs K
    have hI' := hI
    obtain ⟨hlen, hP, hD, hS, hl⟩ := hI'
    have hB := B
    obtain ⟨hx, hb, hml, hown, hts, -, hK, hA, hf1, hl1⟩ := hB
    rw [zexec] at hs
    split at hs
    · cases hs
    · rename_i ins a b cI hP0
      obtain ⟨⟨len, hdec, hlen0⟩, hokH, hokC⟩ := hPk _ _ _ _ _ _ hP0 _ _ _ _ hmi
      split at hs
      · rename_i hkd
        split at hs
        · rename_i st1 hst
          have hne : ¬ zlen ins = 0 := by
            intro h0
            cases ins <;> simp [zlen] at h0 <;> simp [zkd] at hkd
          have hdec' : decode bt pc = .ok (ins, zlen ins) := by
            rcases hlen0 with h0 | h0
            · exact absurd h0 hne
            · rw [h0]; exact hdec
          exact z_stk hx hb hst hdec' (ih _ _ _ _ _ _ _ _ hs p e R s m args below meth c y bt nL ret A ad H locs ls cells slots Q hmi B hnm hfr hlo hG hG2 hI hrc hrs K)
        · cases hs
      · rename_i hkd
        split at hs
        · rename_i L1 st1 hst
          have hdec' : decode bt pc = .ok (ins, zlen ins) := by
            rcases hlen0 with h0 | h0
            · cases ins <;> simp [zlen] at h0 <;> simp [zkd] at hkd
            · rw [h0]; exact hdec
          exact z_loc hx hb hst hdec' hl (fun ls' hl' => ih _ _ _ _ _ _ _ _ hs p e R s m args below meth c y bt nL ret A ad H locs ls' cells slots Q hmi B hnm hfr hlo hG hG2 ⟨hlen, hP, hD, hS, hl'⟩ hrc hrs K)
        · cases hs
      · rename_i hkd
        split at hs
        · rename_i bt1 off st1 hst
          split at hs
          · rename_i pc' hj
            have hdec' : decode bt pc = .ok (ins, 3) := by
              have e3 : zlen ins = 3 := by cases ins <;> simp [zkd] at hkd <;> first | rfl | (split at hkd <;> cases hkd)
              rcases hlen0 with h0 | h0
              · omega
              · rw [← e3, h0]; exact hdec
            exact z_br hG.2.2.2.1 hx hb hst hj hdec' (ih _ _ _ _ _ _ _ _ hs p e R s m args below meth c y bt nL ret A ad H locs ls cells slots Q hmi B hnm hfr hlo hG hG2 hI hrc hrs K)
          · cases hs
        · cases hs
      · rename_i hkd
        split at hs
        · rename_i off st1 hst
          split at hs
          · rename_i pc' hj
            exact z_sw hx hb hst hj hdec (ih _ _ _ _ _ _ _ _ hs p e R s m args below meth c y bt nL ret A ad H locs ls cells slots Q hmi B hnm hfr hlo hG hG2 hI hrc hrs K)
          · cases hs
        · cases hs
      · rename_i hkd
        split at hs
        · rename_i st1 h1 hst
          have hdec' : decode bt pc = .ok (ins, zlen ins) := by
            rcases hlen0 with h0 | h0
            · cases ins <;> simp [zlen] at h0 <;> simp [zkd] at hkd
            · rw [h0]; exact hdec
          have g2 := z_mono _ _ _ _ _ _ _ _ _ hs
          have g1 := zh_grow hst
          refine z_hp B hG hG2 hI hst hdec' (by rw [hnm]; exact hokH hkd) (by omega) (by omega) (fun ad' H1 locs1 q1 q2 q3 q4 => ?_)
          have q5 : ∀ i, 10000 ≤ i → ad' i = ad i := fun i hi => q1 i (Or.inr (by have := q4.1; omega))
          refine ih _ _ _ _ _ _ _ _ hs p e R s m args below meth c y bt nL ret A ad' H1 locs1 ls _ _ Q hmi B hnm hfr hlo (zG_ad q5 hG) (zG2_ad q5 hG2) q4 (by omega) (by omega) ?_
          intro ad2 H2 locs2 pcR lsR insR r1 r2 r3 r4 r5 r6 r7
          have := K ad2 H2 locs2 pcR lsR insR (fun i hi => by
            rcases hi with hi | hi
            · rw [r1 i (Or.inl (by omega)), q1 i (Or.inl hi)]
            · rw [r1 i (Or.inr hi), q1 i (Or.inr (by omega))]) r2 r3 r4 r5 r6 r7
          rw [show cells + (h1.length - h.length) + (h'.length - h1.length) = cells + (h'.length - h.length) by omega, show slots + (zslots h1 - zslots h) + (zslots h' - zslots h1) = slots + (zslots h' - zslots h) by omega]
          exact this
        · cases hs
      · rename_i hkd
        rw [hmi] at hs
        dsimp only at hs
        obtain ⟨rfl, rfl, hz, hz1⟩ := zrt_spec hs
        have := K ad H locs pc ls ins (fun _ _ => rfl) hlen hP hD hS (by
          rcases hlen0 with h0 | h0
          · omega
          · rw [← hz1, h0]; exact hdec) hz
        simpa using this
      · rename_i hk0 hk1 hk2 hk3 hk4 hk5
        split at hs
        · rename_i d' as rest y' bt' nL' ret' has hmi'
          split at hs
          · rename_i hcond
            split at hs
            · rename_i r1 h1 hcall
              split at hs
              · rename_i hsame
                have hkd6 : zkd ins a = 6 ∧ zlen ins = 3 := by
                  cases ins <;> simp [zkd] at hk0 hk1 hk2 hk3 hk4 hk5 <;> simp [zkd, zlen] <;> omega
                have hdec' : decode bt pc = .ok (ins, 3) := by
                  rcases hlen0 with h0 | h0
                  · omega
                  · rw [← hkd6.2, h0]; exact hdec
                have g2 := z_mono _ _ _ _ _ _ _ _ _ hs
                have g1 := z_mono _ _ _ _ _ _ _ _ _ hcall
                refine z_call hM B hG hG2 hI ih hdec' (hokC hkd6.1) has hmi' hcond.1 hcond.2 (by omega) (by omega) hcall (by omega) (by omega) (fun ad' H1 locs1 q1 q2 q3 q4 q5 => ?_)
                have q6 : ∀ i, 10000 ≤ i → ad' i = ad i := fun i hi => q1 i (Or.inr (by omega))
                have hkeep : zLv ad' ls nL L ∧ rest.map (zv ad') = rest.map (zv ad) := by
                  rcases hsame with hsame | hsame
                  · have : ad' = ad := funext fun i => q1 i (by omega)
                    rw [this]
                    exact ⟨hl, rfl⟩
                  · rw [List.all_append, Bool.and_eq_true] at hsame
                    exact ⟨zLv_free hl hsame.1 q1, zst_free hsame.2 q1⟩
                rw [← hkeep.2, ← List.map_append]
                refine ih _ _ _ _ _ _ _ _ hs p e R s m args below meth c y bt nL ret A ad' H1 locs1 ls _ _ Q hmi B hnm hfr hlo (zG_ad q6 hG) (zG2_ad q6 hG2) ⟨q2, q3, q4, q5, hkeep.1⟩ (by omega) (by omega) ?_
                intro ad2 H2 locs2 pcR lsR insR r1 r2 r3 r4 r5 r6 r7
                have := K ad2 H2 locs2 pcR lsR insR (fun i hi => by
                  rcases hi with hi | hi
                  · rw [r1 i (Or.inl (by omega)), q1 i (Or.inl hi)]
                  · rw [r1 i (Or.inr hi), q1 i (Or.inr (by omega))]) r2 r3 r4 r5 r6 r7
                rw [show cells + (h1.length - h.length) + (h'.length - h1.length) = cells + (h'.length - h.length) by omega, show slots + (zslots h1 - zslots h) + (zslots h' - zslots h1) = slots + (zslots h' - zslots h) by omega]
                exact this
              · cases hs
            · cases hs
          · cases hs
        · cases hs
end ZC
