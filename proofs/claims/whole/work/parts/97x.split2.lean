/-! The class splits a text into words: the loop. -/
section SX
variable {e : List Int32 × Value} {d : Nat} {m : zMm} {T : Int → Int} {L : Int}
theorem cN_b {s : Int} (h : s ≤ L) : 0 ≤ cN T L s ∧ cN T L s ≤ 1000 := by
  unfold cN
  by_cases q : s < L ∧ isD (T s)
  · rw [cif_t q]
    have nl : ¬ isL (T s) := by have := q.2; omega
    have e1 : tokE T L s = gon isD T L (s + 1) := by unfold tokE; rw [cif_f (by omega), cif_f nl, cif_t q.2]
    have b := gon_le (P := isD) (B := T) (L := L) (p := s + 1) (by omega)
    refine numS_b (by omega) (fun i a c => ?_)
    rw [e1] at c
    by_cases z : i = s
    · rw [z]; exact q.2
    · exact gon_all (P := isD) (L - (s + 1)).toNat (s + 1) (by omega) i (by omega) c
  · rw [cif_f q]; decide
theorem cW_b {s : Int} : 0 ≤ cW T L s ∧ cW T L s < 32 := by
  unfold cW
  by_cases q : s = L
  · rw [cif_t q]; decide
  · rw [cif_f q]
    by_cases z : isD (T s)
    · rw [cif_t z]; decide
    · rw [cif_f z]; exact wI_b
theorem C_split (hv : e.2 = .null ∨ e.2 = .ref 10301) (hr : Rng m) (hT : m 180 = T) (hL : m 179 1 = L) (l0 : 0 ≤ L) (l1 : L ≤ 300) : ∃ (m' : zMm) (n' : Nat), Z e (d + 6) 67 0 [.ref 179, .retAddr 0, .retAddr 0] [] m = rn m' ∧ FS m m' ∧ (n' : Int) ≤ L ∧ m' 179 6 = (n' : Int) + 1 ∧ TKs T L n' m' ∧ (m' 182 (n' : Int) = 0 ∧ m' 183 (n' : Int) = 0 ∧ m' 184 (n' : Int) = L) ∧ tS T L n' = L := by
  have loop : ∀ (N : Nat) (p : Int) (n : Nat) (m1 : zMm) (u2 : Value), L - p ≤ N → 0 ≤ p → p ≤ L → FS m m1 → m1 179 6 = (n : Int) → (n : Int) ≤ p → gon isB T L p = tS T L n → TKs T L n m1 → ∃ (m' : zMm) (n' : Nat), Z e (d + 6) 67 7 [.ref 179, .int (iI p), u2] [] m1 = rn m' ∧ FS m m' ∧ (n' : Int) ≤ L ∧ m' 179 6 = (n' : Int) + 1 ∧ TKs T L n' m' ∧ (m' 182 (n' : Int) = 0 ∧ m' 183 (n' : Int) = 0 ∧ m' 184 (n' : Int) = L) ∧ tS T L n' = L := by
    intro N
    induction N with
    | zero =>
      intro p n m1 u2 hp p0 p1 F c6 np g K
      have pL : p = L := by omega
      have tn : tS T L n = L := by rw [← g, gon_n (by omega)]; exact pL
      have ad := C_add (e := e) (d := d + 5) (m := m1) (x := 0) (y := 0) (z := L) F.2.2 ⟨by decide, by decide⟩ c6 (by omega) (by omega)
      have r1 : m1 179 1 = L := by rw [F.2.1 1 (by decide)]; exact hL
      refine ⟨um (um (um (um m1 182 (n : Int) 0) 183 (n : Int) 0) 184 (n : Int) L) 179 6 ((n : Int) + 1), n, ?_, F.add rfl rfl (wr_of (by omega) (by omega)) (wr_of (by omega) (by omega)), by omega, by rw [um_s], ?_, ?_, tn⟩
      · refine (b_67_7).trans ?_
        rw [F.2.2 179 1, r1, wr_of (x := p) (by omega) (by omega), itn (by omega), b_67_139, r1, ad, rn_k, b_67_151]
      · intro i hi
        have old := K i hi
        rw [um_k (by decide), um_k (by decide), um_k (by decide), um_i (by omega), um_k (by decide), um_k (by decide), um_i (by omega), um_k (by decide), um_k (by decide), um_i (by omega), um_k (by decide), um_k (by decide)]
        exact old
      · refine ⟨?_, ?_, ?_⟩
        · rw [um_k (by decide), um_k (by decide), um_k (by decide), um_s]
        · rw [um_k (by decide), um_k (by decide), um_s]
        · rw [um_k (by decide), um_s]
    | succ N ih =>
      intro p n m1 u2 hp p0 p1 F c6 np g K
      by_cases pl : p < L
      · have r1 : m1 179 1 = L := by rw [F.2.1 1 (by decide)]; exact hL
        have r180 : m1 180 = T := by rw [F.1 180 (by decide) (by decide)]; exact hT
        have start : Z e (d + 6) 67 7 [.ref 179, .int (iI p), u2] [] m1 = _ := b_67_7
        rw [F.2.2 179 1, r1, wr_of (x := p) (by omega) (by omega), itp pl, ck_t ⟨p0, by omega⟩, F.2.2 180 p, r180, ck_t (fun _ => ⟨p0, by omega⟩), ck_t ⟨p0, by omega⟩, ck_t (fun _ => ⟨p0, by omega⟩), ck_t ⟨p0, by omega⟩] at start
        by_cases sp : T p = 32
        · rw [itn (by omega), itn (by omega), itn (fun z => z sp)] at start
          obtain ⟨m', n', h⟩ := ih (p + 1) n m1 (.int (iI (p + 1))) (by omega) (by omega) (by omega) F c6 (by omega) (by rw [← g, gon_y (P := isB) pl sp]) K
          exact ⟨m', n', start.trans h.1, h.2⟩
        · have tn : tS T L n = p := by rw [← g, gon_n (fun z => sp z.2)]
          have eb := tokE_b (B := T) p1
          have wb := cW_b (T := T) (L := L) (s := p)
          have nb := cN_b (T := T) p1
          have ad := C_add (e := e) (d := d + 5) (m := m1) (x := cW T L p) (y := cN T L p) (z := p) F.2.2 wb c6 (by omega) (by omega)
          have end1 : Z e (d + 6) 67 7 [.ref 179, .int (iI p), u2] [] m1 = Z e (d + 6) 67 7 [.ref 179, .int (iI (tokE T L p)), .int (iI (tokE T L p))] [] (um (um (um (um m1 182 (n : Int) (cW T L p)) 183 (n : Int) (cN T L p)) 184 (n : Int) p) 179 6 ((n : Int) + 1)) := by
            rw [start]
            have le := C_ends (e := e) (d := d + 5) (m := m1) (L := L) (p := p) F.2.2 r1 l1 (L - (p + 1)).toNat (p + 1) (by omega) (by omega)
            rw [r180] at le
            by_cases c1 : isL (T p)
            · have nd : ¬ isD (T p) := by omega
              have e1 : tokE T L p = gon isL T L (p + 1) := by unfold tokE; rw [cif_f (by omega), cif_t c1]
              have e2 : cW T L p = wI T p (tokE T L p) := by unfold cW; rw [cif_f (by omega), cif_f nd]
              have e3 : cN T L p = 0 := by unfold cN; rw [cif_f (fun z => nd z.2)]
              have cw := C_word (e := e) (d := d) (m := m1) (s := p) (t := tokE T L p) hv F.2.2 p0 eb.1 (by omega)
              rw [r180, ← e2] at cw
              rw [itp c1, le.1, ← e1, b_67_49, cw, rr_k, b_67_56 wb, ← e3, ad, rn_k, b_67_61, b_67_134]
            · rw [itn c1]
              by_cases c2 : isD (T p)
              · have e1 : tokE T L p = gon isD T L (p + 1) := by unfold tokE; rw [cif_f (by omega), cif_f c1, cif_t c2]
                have e2 : cW T L p = 2 := by unfold cW; rw [cif_f (by omega), cif_t c2]
                have e3 : cN T L p = numS T p (tokE T L p) := by unfold cN; rw [cif_t ⟨pl, c2⟩]
                have cn := C_num (e := e) (d := d + 5) (m := m1) (s := p) (t := tokE T L p) p0 eb.1 (by omega)
                rw [r180, ← e3] at cn
                rw [itp c2, le.2, ← e1, b_67_94, cn, ri_k, b_67_104 ⟨by decide, by decide⟩, ← e2, ad, rn_k, b_67_108, b_67_134]
              · have e1 : tokE T L p = p + 1 := by unfold tokE; rw [cif_f (by omega), cif_f c1, cif_f c2]
                have e2 : cW T L p = wI T p (tokE T L p) := by unfold cW; rw [cif_f (by omega), cif_f c2]
                have e3 : cN T L p = 0 := by unfold cN; rw [cif_f (fun z => c2 z.2)]
                have cw := C_word (e := e) (d := d) (m := m1) (s := p) (t := tokE T L p) hv F.2.2 p0 eb.1 (by omega)
                rw [r180, ← e2] at cw
                rw [itn c2, itp sp, ← e1, cw, rr_k, b_67_129 wb, ← e3, ad, rn_k, b_67_134]
          have tl := eb.2.2 pl
          obtain ⟨m', n', h⟩ := ih (tokE T L p) (n + 1) (um (um (um (um m1 182 (n : Int) (cW T L p)) 183 (n : Int) (cN T L p)) 184 (n : Int) p) 179 6 ((n : Int) + 1)) (.int (iI (tokE T L p))) (by omega) (by omega) eb.2.1 (F.add (wr_of (by omega) (by omega)) (wr_of (by omega) (by omega)) (wr_of (by omega) (by omega)) (wr_of (by omega) (by omega))) (by rw [um_s]; rfl) (by omega) (by show _ = gon isB T L (tokE T L (tS T L n)); rw [tn]) (K.add (by rw [tn]) (by rw [tn]) tn.symm pl)
          exact ⟨m', n', end1.trans h.1, h.2⟩
      · exact ih p n m1 u2 (by omega) p0 p1 F c6 np g K
  rw [b_67_0]
  refine loop L.toNat 0 0 (um m 179 6 0) (.retAddr 0) (by omega) (by decide) l0 ⟨fun k k1 _ => um_r k1, fun i hi => um_i hi, hr.um rfl⟩ (by rw [um_s]; rfl) (by decide) rfl (fun i hi => absurd hi (by omega))
end SX
