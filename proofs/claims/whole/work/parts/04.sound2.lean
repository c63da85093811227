section ZT
variable {p : Program} {l : Launch} {e : Env} {R : Room} {s : State} {m : MethodId} {args : Array Value} {below : List Frame} {meth : Method} {c : Code} {H : Heap} {locs : List Loc} {cells slots : Nat} {Q : State → Prop}
variable {cc : ByteArray} {pc : Nat} {ls : Array Slot} {ad : Nat → Nat}
theorem z_zjmp {pc : Nat} {off : Int} {t : Nat} (h : zjmp pc off = some t) : (pc : Int) + off = (t : Int) := by
  unfold zjmp at h
  split at h
  · rename_i h0
    cases h
    omega
  · cases h
theorem z_sto {i t : Nat} {L L' st st' : List Value} (h : zsto i L st t = some (L', st')) : ∃ v st0, st = v :: st0 ∧ st' = st0 ∧ L' = L.set i v ∧ i < L.length ∧ zlong L i = false ∧ ((t = 0 ∧ ∃ x, v = .int x) ∨ (t = 1 ∧ ∃ x, v = .ref x)) := by
  unfold zsto at h
  split at h
  · rename_i x st0
    split at h
    · rename_i hc
      cases h
      exact ⟨_, _, rfl, rfl, rfl, hc.2.1, hc.2.2, Or.inl ⟨hc.1, x, rfl⟩⟩
    · cases h
  · rename_i x st0
    split at h
    · rename_i hc
      cases h
      exact ⟨_, _, rfl, rfl, rfl, hc.2.1, hc.2.2, Or.inr ⟨hc.1, x, rfl⟩⟩
    · cases h
  · cases h
theorem z_inc {i : Nat} {n : Int} {L L' st st' : List Value} (h : (zinc i n L).map (fun L' => (L', st)) = some (L', st')) : ∃ x, L' = L.set i (.int (x + Int32.ofInt n)) ∧ st = st' ∧ L[i]? = some (.int x) ∧ zlong L i = false := by
  rw [Option.map_eq_some_iff] at h
  obtain ⟨L1, h1, h2⟩ := h
  cases h2
  unfold zinc at h1
  split at h1
  · rename_i x hL
    split at h1
    · rename_i hz
      cases h1
      exact ⟨x, rfl, rfl, hL, hz⟩
    · cases h1
  · cases h1
theorem z_loc (hx : p.tables.exec = Jvm.exec) (hb : c.code = cc) {nL : Nat} {ins : Instr} {L L' st st' : List Value} (hs : zloc ins L st = some (L', st')) (hd : decode cc pc = .ok (ins, zlen ins)) (hl : zLv ad ls nL L)
    (k : ∀ ls', zLv ad ls' nL L' → W p l e R s m args below meth c H locs cells slots Q (F0 m (pc + zlen ins) ls' (st'.map (zv ad)))) : W p l e R s m args below meth c H locs cells slots Q (F0 m pc ls (st.map (zv ad))) := by
  have hn : ∀ i, i < L.length → i < nL := fun i h => by rw [← hl.2]; exact h
  unfold zloc at hs
  split at hs
  case h_1 i _ _ =>
    unfold zld at hs
    split at hs <;> (try split at hs) <;> (try cases hs) <;> (try (rename_i hz; omega))
    rename_i x hL _
    exact lv_iload hx hb hd (zLv_at hl hL rfl) (k ls hl)
  case h_2 i _ _ =>
    unfold zld at hs
    split at hs <;> (try split at hs) <;> (try cases hs) <;> (try (rename_i hz; omega))
    rename_i x hL _
    exact lv_iload_n hx hb hd rfl (zLv_at hl hL rfl) (k ls hl)
  case h_3 i _ _ =>
    unfold zld at hs
    split at hs <;> (try split at hs) <;> (try cases hs) <;> (try (rename_i hz; omega))
    rename_i x hL _
    exact lv_aload hx hb hd (zLv_at hl hL rfl) (k ls hl)
  case h_4 i _ _ =>
    unfold zld at hs
    split at hs <;> (try split at hs) <;> (try cases hs) <;> (try (rename_i hz; omega))
    rename_i x hL _
    exact lv_aload_n hx hb hd rfl (zLv_at hl hL rfl) (k ls hl)
  case h_5 i _ _ =>
    unfold zld at hs
    split at hs <;> (try split at hs) <;> (try cases hs) <;> (try (rename_i hz; omega))
    rename_i x hL _
    exact lv_lload_n hx hb hd rfl (zLv_at hl hL rfl) (k ls hl)
  case h_6 =>
    obtain ⟨v, st0, rfl, rfl, rfl, h1, h2, h3⟩ := z_sto hs
    rcases h3 with ⟨-, x, rfl⟩ | ⟨h3, -⟩
    · exact lv_istore hx hb hd hl.1 (hn _ h1) rfl (fun ls' h' => k ls' (zLv_set (v := .int x) hl.2 h2 h'))
    · cases h3
  case h_7 =>
    obtain ⟨v, st0, rfl, rfl, rfl, h1, h2, h3⟩ := z_sto hs
    rcases h3 with ⟨-, x, rfl⟩ | ⟨h3, -⟩
    · exact lv_istore_n hx hb hd rfl hl.1 (hn _ h1) rfl (fun ls' h' => k ls' (zLv_set (v := .int x) hl.2 h2 h'))
    · cases h3
  case h_8 =>
    obtain ⟨v, st0, rfl, rfl, rfl, h1, h2, h3⟩ := z_sto hs
    rcases h3 with ⟨h3, -⟩ | ⟨-, x, rfl⟩
    · cases h3
    · exact lv_astore hx hb hd hl.1 (hn _ h1) rfl (fun ls' h' => k ls' (zLv_set (v := .ref x) hl.2 h2 h'))
  case h_9 =>
    obtain ⟨v, st0, rfl, rfl, rfl, h1, h2, h3⟩ := z_sto hs
    rcases h3 with ⟨h3, -⟩ | ⟨-, x, rfl⟩
    · cases h3
    · exact lv_astore_n hx hb hd rfl hl.1 (hn _ h1) rfl (fun ls' h' => k ls' (zLv_set (v := .ref x) hl.2 h2 h'))
  case h_10 =>
    obtain ⟨x, rfl, rfl, h1, h2⟩ := z_inc hs
    obtain ⟨kk, hk⟩ := List.mem_iff_getElem?.mp (zlv_mem (ad := ad).mpr ⟨.int x, h1, rfl, rfl⟩)
    exact lv_iinc hx hb hd hl.1 hk rfl (hn _ (List.getElem?_eq_some_iff.mp h1).1) rfl (fun ls' h' => k ls' (zLv_set (v := .int _) hl.2 h2 h'))
  case h_11 => cases hs
theorem z_cnd {cd : ClassFile.Cond} {x y : Int32} {off : Int} {t : Nat} (hx : p.tables.exec = Jvm.exec) (hb : c.code = cc) {rest : List Value} (hd : decode cc pc = .ok (.if_icmp cd off, 3)) (ht : (pc : Int) + off = (t : Int))
    (k : W p l e R s m args below meth c H locs cells slots Q (F0 m (if zcnd cd x y = true then t else pc + 3) ls rest)) :
    W p l e R s m args below meth c H locs cells slots Q (F0 m pc ls (.int y :: .int x :: rest)) := by
  cases cd
  · exact lv_icmp_eq hx hb hd ht (fun h => by simpa [zcnd, h] using k) (fun h => by simpa [zcnd, h] using k)
  · exact lv_icmp_ne hx hb hd ht (fun h => by simpa [zcnd, h] using k) (fun h => by simpa [zcnd, h] using k)
  · exact lv_icmp_lt hx hb hd ht (fun h => by simpa [zcnd, h] using k) (fun h => by simpa only [zcnd, h, decide_false, Bool.false_eq_true, if_false] using k)
  · exact lv_icmp_ge hx hb hd ht (fun h => by simpa [zcnd, h] using k) (fun h => by simpa only [zcnd, h, decide_false, Bool.false_eq_true, if_false] using k)
  · exact lv_icmp_gt hx hb hd ht (fun h => by simpa [zcnd, h] using k) (fun h => by simpa only [zcnd, h, decide_false, Bool.false_eq_true, if_false] using k)
  · exact lv_icmp_le hx hb hd ht (fun h => by simpa [zcnd, h] using k) (fun h => by simpa only [zcnd, h, decide_false, Bool.false_eq_true, if_false] using k)
theorem z_cnd0 {cd : ClassFile.Cond} {x : Int32} {off : Int} {t : Nat} (hx : p.tables.exec = Jvm.exec) (hb : c.code = cc) {rest : List Value} (hd : decode cc pc = .ok (.ifCond cd off, 3)) (ht : (pc : Int) + off = (t : Int))
    (k : W p l e R s m args below meth c H locs cells slots Q (F0 m (if zcnd cd x 0 = true then t else pc + 3) ls rest)) :
    W p l e R s m args below meth c H locs cells slots Q (F0 m pc ls (.int x :: rest)) := by
  cases cd
  · exact lv_if_eq hx hb hd ht (fun h => by simpa [zcnd, h] using k) (fun h => by simpa [zcnd, h] using k)
  · exact lv_if_ne hx hb hd ht (fun h => by simpa [zcnd, h] using k) (fun h => by simpa [zcnd, h] using k)
  · exact lv_if_lt hx hb hd ht (fun h => by simpa [zcnd, h] using k) (fun h => by simpa only [zcnd, h, decide_false, Bool.false_eq_true, if_false] using k)
  · exact lv_if_ge hx hb hd ht (fun h => by simpa [zcnd, h] using k) (fun h => by simpa only [zcnd, h, decide_false, Bool.false_eq_true, if_false] using k)
  · exact lv_if_gt hx hb hd ht (fun h => by simpa [zcnd, h] using k) (fun h => by simpa only [zcnd, h, decide_false, Bool.false_eq_true, if_false] using k)
  · exact lv_if_le hx hb hd ht (fun h => by simpa [zcnd, h] using k) (fun h => by simpa only [zcnd, h, decide_false, Bool.false_eq_true, if_false] using k)
theorem z_br {E : zS} (hinj : ∀ x y, zisE E x = true → zisE E y = true → ad x = ad y → x = y) (hx : p.tables.exec = Jvm.exec) (hb : c.code = cc) {ins : Instr} {st st' : List Value} {bt : Bool} {off : Int} {t : Nat} (hs : zbr E ins st = some (bt, off, st')) (hj : zjmp pc off = some t) (hd : decode cc pc = .ok (ins, 3))
    (k : W p l e R s m args below meth c H locs cells slots Q (F0 m (if bt = true then t else pc + 3) ls (st'.map (zv ad)))) : W p l e R s m args below meth c H locs cells slots Q (F0 m pc ls (st.map (zv ad))) := by
  have ht := z_zjmp hj
  unfold zbr at hs
  split at hs
  case h_1 => cases hs; exact z_cnd0 hx hb hd ht k
  case h_2 => cases hs; exact z_cnd hx hb hd ht k
  case h_3 => cases hs; exact lv_goto hx hb hd ht k
  case h_4 cd off' y x st0 =>
    split at hs
    · rename_i hc
      obtain ⟨h1, h2⟩ := hc
      cases hs
      have hi : some (ad x) = some (ad y) ↔ x = y := ⟨fun q => hinj x y h1 h2 (Option.some.inj q), fun q => by rw [q]⟩
      cases cd
      · exact lv_acmp_eq (rx := some (ad x)) (ry := some (ad y)) hx hb hd ht (fun h => by simpa [hi.mp h] using k) (fun h => (by have hne : ¬ x = y := fun q => h (hi.mpr q); simpa [hne] using k))
      · exact lv_acmp_ne (rx := some (ad x)) (ry := some (ad y)) hx hb hd ht (fun h => (by have hne : ¬ x = y := fun q => h (hi.mpr q); simpa [hne] using k)) (fun h => by simpa [hi.mp h] using k)
    · cases hs
  case h_5 => cases hs
theorem z_sw (hx : p.tables.exec = Jvm.exec) (hb : c.code = cc) {ins : Instr} {st st' : List Value} {off : Int} {t len : Nat} (hs : zsw ins st = some (off, st')) (hj : zjmp pc off = some t) (hd : decode cc pc = .ok (ins, len))
    (k : W p l e R s m args below meth c H locs cells slots Q (F0 m t ls (st'.map (zv ad)))) : W p l e R s m args below meth c H locs cells slots Q (F0 m pc ls (st.map (zv ad))) := by
  have ht := z_zjmp hj
  unfold zsw at hs
  split at hs
  case h_1 =>
    split at hs
    · rename_i h
      cases hs
      exact lv_tableOut hx hb hd h ht k
    · rename_i h
      rw [Option.map_eq_some_iff] at hs
      obtain ⟨o, h1, h2⟩ := hs
      cases h2
      exact lv_tableIn hx hb hd (fun q => h (Or.inl q)) (fun q => h (Or.inr q)) h1 ht k
  case h_2 =>
    split at hs
    · rename_i h
      cases hs
      exact lv_lookup hx hb hd h rfl ht k
    · cases hs
  case h_3 => cases hs
end ZT
