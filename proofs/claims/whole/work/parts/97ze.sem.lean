/-! Reading: codes that say the same, closed under NOT, AND, OR. -/
section SE
variable {C R : Int → Int} {i j i' j' K H : Int}
def semF (fl : Bool) (K H : Int) (C : Int → Int) (i j : Int) (R : Int → Int) (i' j' : Int) : Prop := ∀ (f : Int → Int) (k : Int), (∀ q, 3 ≤ q → q < 6 → (f q = 0 ∨ f q = 1) ∧ jand (jshr k (q - 3)) 1 = f q) → (∀ q, -2147483648 ≤ f q ∧ f q < 2147483648) → ∃ b, (b = 0 ∨ b = 1) ∧ (∀ x, 0 ≤ x → x < K → evC (f 0) (f 1) (f 2) k C i j x = 2 * x + b) ∧ (∀ g h, 0 ≤ h → h < H → ∃ g', evR f R i' j' (g, h) = some (g', h + 1) ∧ g' h = (if fl then 1 - b else b) ∧ (∀ q, q < h → g' q = g q))
theorem semF_sem (h : semF false 65536 60 C i j R i' j') : sem C i j R i' j' := h
theorem itr_ad2 {α : Type} {f : Int → α → α} (a : Nat) : ∀ (b : Nat) (p : Int) (x : α), itr f p (a + b) x = itr f (p + a) b (itr f p a x) := by
  intro b
  induction b with
  | zero => intro p x; rfl
  | succ b ih =>
    intro p x
    rw [← Nat.add_assoc, itr_succ, ih, itr_succ]
    congr 1
    omega
theorem evC_add {a t g k x p q r : Int} (h1 : p ≤ q) (h2 : q ≤ r) : evC a t g k C p r x = evC a t g k C q r (evC a t g k C p q x) := by
  unfold evC
  rw [show (r - p).toNat = (q - p).toNat + (r - q).toNat by omega, itr_ad2, show p + ((q - p).toNat : Int) = q by omega]
theorem evR_add {f : Int → Int} {s s' : (Int → Int) × Int} {p q r : Int} (h1 : p ≤ q) (h2 : q ≤ r) (h : evR f R p q s = some s') : evR f R p r s = evR f R q r s' := by
  unfold evR at h ⊢
  rw [show (r - p).toNat = (q - p).toNat + (r - q).toNat by omega, itr_ad2, h, show p + ((q - p).toNat : Int) = q by omega]
theorem evC_1 {a t g k x p : Int} : evC a t g k C p (p + 1) x = cst a t g k (C p) x := by
  unfold evC
  rw [show (p + 1 - p).toNat = 1 by omega]
  rfl
theorem evR_1 {f : Int → Int} {s : (Int → Int) × Int} {p : Int} : evR f R p (p + 1) s = rst f (R p) s := by
  unfold evR
  rw [show (p + 1 - p).toNat = 1 by omega]
  rfl
theorem up_s2 {g : Int → Int} {p x : Int} : up g p x p = x := if_pos rfl
theorem up_n2 {g : Int → Int} {p q x : Int} (h : ¬ q = p) : up g p x q = g q := if_neg h
theorem semF_rnot {fl : Bool} (h : semF fl K H C i j R i' j') (hH : H ≤ 119) (h1 : i' ≤ j') (hc : R j' = 4000) : semF (!fl) K H C i j R i' (j' + 1) := by
  intro f k q1 q2
  obtain ⟨b, b1, b2, b3⟩ := h f k q1 q2
  refine ⟨b, b1, b2, fun g h h0 hh => ?_⟩
  obtain ⟨g', g1, g2, g3⟩ := b3 g h h0 hh
  refine ⟨up g' h (1 - g' h), ?_, ?_, fun q hq => ?_⟩
  · rw [evR_add h1 (by omega) g1, evR_1, hc]
    unfold rst
    rw [if_neg (by decide), if_pos rfl, if_pos (by show 1 ≤ h + 1 ∧ h + 1 ≤ 120; omega)]
    show some (up g' (h + 1 - 1) (1 - g' (h + 1 - 1)), h + 1) = _
    rw [show h + 1 - 1 = h by omega]
  · rw [up_s2, g2]
    cases fl
    · rfl
    · show 1 - (1 - b) = b; omega
  · rw [up_n2 (by omega)]; exact g3 q hq
theorem semF_cnot (h : semF true K H C i j R i' j') (hK : K ≤ 536870912) (h1 : i ≤ j) (hc : jdiv (C j) 1000 = 6) : semF false K H C i (j + 1) R i' j' := by
  intro f k q1 q2
  obtain ⟨b, b1, b2, b3⟩ := h f k q1 q2
  refine ⟨1 - b, by omega, fun x x0 x1 => ?_, b3⟩
  rw [evC_add h1 (by omega), evC_1, b2 x x0 x1]
  unfold cst
  rw [if_pos hc]
  exact c_not x0 (by omega) b1
theorem semF_op {j2 j2' c : Int} (ha : semF false K H C i j R i' j') (hb : semF false (2 * K) (H + 1) C j j2 R j' j2') (hK : K ≤ 268435456) (hH : H ≤ 118) (h1 : i ≤ j) (h2 : j ≤ j2) (h1' : i' ≤ j') (h2' : j' ≤ j2') (hc : (jdiv (C j2) 1000 = 7 ∧ R j2' = 4001) ∨ (jdiv (C j2) 1000 = 8 ∧ R j2' = 4002)) : semF false K H C i (j2 + 1) R i' (j2' + 1) := by
  intro f k q1 q2
  obtain ⟨a, a1, a2, a3⟩ := ha f k q1 q2
  obtain ⟨b, b1, b2, b3⟩ := hb f k q1 q2
  have bits : ∀ u v : Int, (u = 0 ∨ u = 1) → (v = 0 ∨ v = 1) → (jand u v = u * v ∧ (jand u v = 0 ∨ jand u v = 1)) ∧ (jor u v = 0 ∨ jor u v = 1) := fun u v hu hv => by
    rcases hu with z | z <;> rcases hv with y | y <;> subst z <;> subst y <;> decide
  have bt := bits a b a1 b1
  have cl : ∀ x, 0 ≤ x → x < K → evC (f 0) (f 1) (f 2) k C i (j2 + 1) x = cst (f 0) (f 1) (f 2) k (C j2) (2 * (2 * x + a) + b) := fun x x0 x1 => by
    rw [evC_add (q := j2) (by omega) (by omega), evC_1, evC_add h1 h2, a2 x x0 x1, b2 (2 * x + a) (by omega) (by omega)]
  have one : ∀ x, 0 ≤ x → x < K → jand (2 * (2 * x + a) + b) 1 = b := fun x x0 x1 => by rw [c_one (by omega) (by omega)]; omega
  have rf : ∀ g h, 0 ≤ h → h < H → ∃ g2, evR f R i' (j2' + 1) (g, h) = rst f (R j2') (g2, h + 1 + 1) ∧ g2 (h + 1) = b ∧ g2 h = a ∧ (∀ q, q < h → g2 q = g q) := fun g h h0 hh => by
    obtain ⟨g', g1, g2, g3⟩ := a3 g h h0 hh
    obtain ⟨g'', u1, u2, u3⟩ := b3 g' (h + 1) (by omega) (by omega)
    refine ⟨g'', ?_, u2, ?_, fun q hq => ?_⟩
    · rw [evR_add h1' (by omega) g1, evR_add h2' (by omega) u1, evR_1]
    · rw [u3 h (by omega)]; exact g2
    · rw [u3 q (by omega)]; exact g3 q hq
  rcases hc with ⟨c1, c2⟩ | ⟨c1, c2⟩
  · refine ⟨jand a b, bt.1.2, fun x x0 x1 => ?_, fun g h h0 hh => ?_⟩
    · rw [cl x x0 x1]
      unfold cst
      rw [if_neg (by omega), if_pos c1, one x x0 x1, c_shr (by omega) (by omega) b1, bt.1.1]
      rcases b1 with z | z <;> subst z
      · rw [if_neg (by decide), c_m2 x0 (by omega) a1]; omega
      · rw [if_pos rfl, c_m1 (by omega) (by omega)]; omega
    · obtain ⟨g2, u1, u2, u3, u4⟩ := rf g h h0 hh
      refine ⟨up g2 h (jand a b), ?_, up_s2, fun q hq => by rw [up_n2 (by omega)]; exact u4 q hq⟩
      rw [u1, c2]
      unfold rst
      rw [if_neg (by decide), if_neg (by decide), if_pos (by show 2 ≤ h + 1 + 1 ∧ h + 1 + 1 ≤ 120; omega), if_pos rfl]
      show some (up g2 (h + 1 + 1 - 2) (jand (g2 (h + 1 + 1 - 2)) (g2 (h + 1 + 1 - 1))), h + 1 + 1 - 1) = _
      rw [show h + 1 + 1 - 2 = h by omega, show h + 1 + 1 - 1 = h + 1 by omega, u2, u3]
  · refine ⟨jor a b, bt.2, fun x x0 x1 => ?_, fun g h h0 hh => ?_⟩
    · rw [cl x x0 x1]
      unfold cst
      rw [if_neg (by omega), if_neg (by omega), if_pos c1, one x x0 x1, c_shr (by omega) (by omega) b1, c_orb x0 (by omega) a1 b1]
    · obtain ⟨g2, u1, u2, u3, u4⟩ := rf g h h0 hh
      refine ⟨up g2 h (jor a b), ?_, up_s2, fun q hq => by rw [up_n2 (by omega)]; exact u4 q hq⟩
      rw [u1, c2]
      unfold rst
      rw [if_neg (by decide), if_neg (by decide), if_pos (by show 2 ≤ h + 1 + 1 ∧ h + 1 + 1 ≤ 120; omega), if_neg (by decide)]
      show some (up g2 (h + 1 + 1 - 2) (jor (g2 (h + 1 + 1 - 2)) (g2 (h + 1 + 1 - 1))), h + 1 + 1 - 1) = _
      rw [show h + 1 + 1 - 2 = h by omega, show h + 1 + 1 - 1 = h + 1 by omega, u2, u3]
theorem c_push {x c : Int} (h0 : 0 ≤ x) (h1 : x < 1073741824) (hc : c = 0 ∨ c = 1) : jor (jshl x 1) c = 2 * x + c := by
  rw [c_shl h0 h1]
  have := c_orb (x := x) (b := 0) (c := c) h0 h1 (Or.inl rfl) hc
  rw [show 2 * x + 0 = 2 * x by omega] at this
  rw [this]
  rcases hc with z | z <;> subst z <;> rfl
theorem semF_fact {q n : Int} (hK : K ≤ 536870912) (hH : H ≤ 119) (q0 : 0 ≤ q) (q1 : q < 3) (n0 : 0 ≤ n) (n1 : n ≤ 999) (hC : C i = q * 1000 + n) (hR : R i' = 1000 * q + n) : semF false K H C i (i + 1) R i' (i' + 1) := by
  intro f k _ _
  have d1 : jdiv (q * 1000 + n) 1000 = q := by rw [jdiv_n (by omega) (by omega) (by decide) (by decide)]; omega
  have d2 : jrem (q * 1000 + n) 1000 = n := by rw [jrem_n (by omega) (by omega) (by decide) (by decide)]; omega
  refine ⟨if n < f q then 1 else 0, by by_cases z : n < f q <;> simp [z], fun x x0 x1 => ?_, fun g h h0 hh => ?_⟩
  · rw [evC_1, hC]
    unfold cst
    rw [d1, d2, if_neg (by omega), if_neg (by omega), if_neg (by omega), if_neg (by omega)]
    have e : (if q = 0 then f 0 else if q = 1 then f 1 else f 2) = f q := by
      have : q = 0 ∨ q = 1 ∨ q = 2 := by omega
      rcases this with z | z | z <;> subst z <;> rfl
    rw [e]
    exact c_push x0 (by omega) (by by_cases z : n < f q <;> simp [z])
  · refine ⟨up g h (if n < f q then 1 else 0), ?_, up_s2, fun p hp => up_n2 (by omega)⟩
    rw [evR_1, hR, show 1000 * q + n = q * 1000 + n by omega]
    unfold rst
    rw [if_pos (by omega), d1, d2, if_pos (by show _ ∧ _ ∧ 0 ≤ h ∧ h < 120; omega), if_pos (by omega)]
theorem semF_mark {q : Int} (hK : K ≤ 536870912) (hH : H ≤ 119) (q0 : 3 ≤ q) (q1 : q < 6) (hC : C i = q * 1000 + 0) (hR : R i' = 3000 + (q - 3)) : semF false K H C i (i + 1) R i' (i' + 1) := by
  intro f k hf _
  have d1 : jdiv (q * 1000 + 0) 1000 = q := by rw [jdiv_n (by omega) (by omega) (by decide) (by decide)]; omega
  have fq := hf q q0 q1
  refine ⟨f q, fq.1, fun x x0 x1 => ?_, fun g h h0 hh => ?_⟩
  · rw [evC_1, hC]
    unfold cst
    rw [d1, if_neg (by omega), if_neg (by omega), if_neg (by omega), if_pos q0, fq.2]
    exact c_push x0 (by omega) fq.1
  · refine ⟨up g h (f q), ?_, up_s2, fun p hp => up_n2 (by omega)⟩
    rw [evR_1, hR]
    unfold rst
    rw [if_pos (by omega), if_pos (by show _ ∧ _ ∧ 0 ≤ h ∧ h < 120; omega), if_neg (by omega), show 3 + (3000 + (q - 3)) - 3000 = q by omega]
end SE
