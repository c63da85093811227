/-! Runs over the memory: a row an instruction. Own text, by program where rows repeat. -/
noncomputable def Z (e : List Int32 × Value) (d mi pc : Nat) (L st : List Value) (m : zMm) : Option (Option Value × zH) := rv (zE0 e.1 e.2) d mi pc L st (hp m)
noncomputable def ZK (e : List Int32 × Value) (d mi pc : Nat) (L st : List Value) (m : zMm) : Option Value × zH → Option (Option Value × zH) := zth (zE0 e.1 e.2) d mi pc L st (hp m)
def ri (x : Int) (m : zMm) : Option (Option Value × zH) := some (some (.int (iI x)), hp m)
def rn (m : zMm) : Option (Option Value × zH) := some (none, hp m)
def rr (k : Nat) (m : zMm) : Option (Option Value × zH) := some (some (.ref k), hp m)
theorem cat_i {x : Int32} : (Value.int x).category = 1 := rfl
theorem cat_r {x : Nat} : (Value.ref x).category = 1 := rfl
theorem cat_u {x : Nat} : (Value.retAddr x).category = 1 := rfl
theorem ite_cg {α : Type} {c : Prop} [Decidable c] {a a' b b' : α} (h1 : a = a') (h2 : b = b') : (if c then a else b) = (if c then a' else b') := by rw [h1, h2]
theorem ite_cg' {α : Type} {c : Prop} [Decidable c] {a a' b b' : α} (h1 : c → a = a') (h2 : ¬ c → b = b') : (if c then a else b) = (if c then a' else b') := by
  split
  · rename_i h; exact h1 h
  · rename_i h; exact h2 h
theorem phi1 {α : Type} (f : Int → α) {c : Prop} [Decidable c] {x y : Int} : (if c then f x else f y) = f (if c then x else y) := by split <;> rfl
theorem phi2 {α : Type} (f : Int → Int → α) {c : Prop} [Decidable c] {x y x2 y2 : Int} : (if c then f x x2 else f y y2) = f (if c then x else y) (if c then x2 else y2) := by split <;> rfl
theorem phi3 {α : Type} (f : Int → Int → Int → α) {c : Prop} [Decidable c] {x y x2 y2 x3 y3 : Int} : (if c then f x x2 x3 else f y y2 y3) = f (if c then x else y) (if c then x2 else y2) (if c then x3 else y3) := by split <;> rfl
theorem phi_or {α : Type} (f : Int → α) {c p : Prop} [Decidable c] [Decidable p] : (if c then f 1 else f (if p then 1 else 0)) = f (if c ∨ p then 1 else 0) := by
  by_cases h : c <;> by_cases h2 : p <;> simp [h, h2]
theorem phi_and {α : Type} (f : Int → α) {c p : Prop} [Decidable c] [Decidable p] : (if c then f (if p then 1 else 0) else f 0) = f (if c ∧ p then 1 else 0) := by
  by_cases h : c <;> by_cases h2 : p <;> simp [h, h2]
theorem phi_not {α : Type} (f : Int → α) {c : Prop} [Decidable c] : (if c then f 0 else f 1) = f (if ¬ c then 1 else 0) := by
  by_cases h : c <;> simp [h]
theorem phi_id {α : Type} {c : Prop} [Decidable c] {a : α} : (if c then a else a) = a := by split <;> rfl
theorem co_or {α : Type} {c p : Prop} [Decidable c] [Decidable p] {a b : α} : (if c then a else (if p then a else b)) = if c ∨ p then a else b := by
  by_cases h : c <;> by_cases h2 : p <;> simp [h, h2]
theorem co_and {α : Type} {c p : Prop} [Decidable c] [Decidable p] {a b : α} : (if c then (if p then a else b) else b) = if c ∧ p then a else b := by
  by_cases h : c <;> by_cases h2 : p <;> simp [h, h2]
theorem ck_a {α : Type} {c P : Prop} [Decidable c] [Decidable P] {X Y : Option α} : (if c then ck P X else Y) = ck (c → P) (if c then X else Y) := by
  unfold ck
  by_cases h : c <;> by_cases h2 : P <;> simp [h, h2]
theorem ck_b {α : Type} {c P : Prop} [Decidable c] [Decidable P] {X Y : Option α} : (if c then X else ck P Y) = ck (¬ c → P) (if c then X else Y) := by
  unfold ck
  by_cases h : c <;> by_cases h2 : P <;> simp [h, h2]
theorem ck_ab {α : Type} {c P Q : Prop} [Decidable c] [Decidable P] [Decidable Q] {X Y : Option α} : (if c then ck P X else ck Q Y) = ck ((c → P) ∧ (¬ c → Q)) (if c then X else Y) := by
  unfold ck
  by_cases h : c <;> by_cases h2 : P <;> by_cases h3 : Q <;> simp [h, h2, h3]
theorem ck_ck {α : Type} {P Q : Prop} [Decidable P] [Decidable Q] {X : Option α} : ck P (ck Q X) = ck (P ∧ Q) X := by
  unfold ck
  by_cases h2 : P <;> by_cases h3 : Q <;> simp [h2, h3]
theorem ck_bind {α β : Type} {P : Prop} [Decidable P] {X : Option α} {f : α → Option β} : (ck P X).bind f = ck P (X.bind f) := by
  unfold ck
  by_cases h2 : P <;> simp [h2]
theorem bd {α β : Type} {X Y : Option α} {f : α → Option β} (h : X = Y) : X.bind f = Y.bind f := by rw [h]
section ZS
variable {e : List Int32 × Value} {d mi pc a b : Nat} {c : Int} {L st rest : List Value} {m m' : zMm} {v l0 l1 l2 l3 l4 l5 l6 l7 l8 l9 l10 l11 l12 l13 : Value} {x y x' y' : Int} {k k2 i' n : Nat} {tm tm' : List (Option Value)}
theorem zth_p {E : zS} {d mi pc : Nat} {L rest : List Value} {v : Option Value} {h h2 : zH} (hl : h2.length = h.length) : zth E d mi pc L rest h (v, h2) = rv E d mi pc L (v.toList ++ rest) h2 := if_pos (Or.inl hl)
theorem hp_ll : (hp m').length = (hp m).length := Eq.trans (b := 268) hp_len (Eq.symm hp_len)
theorem ri_k : (ri x m').bind (ZK e d mi pc L rest m) = Z e d mi pc L (.int (iI x) :: rest) m' := by
  unfold ri ZK Z
  rw [Option.bind_some]
  exact zth_p (hp_ll (m := m) (m' := m'))
theorem rn_k : (rn m').bind (ZK e d mi pc L rest m) = Z e d mi pc L rest m' := by
  unfold rn ZK Z
  rw [Option.bind_some]
  exact zth_p (hp_ll (m := m) (m' := m'))
theorem rr_k : (rr k m').bind (ZK e d mi pc L rest m) = Z e d mi pc L (.ref k :: rest) m' := by
  unfold rr ZK Z
  rw [Option.bind_some]
  exact zth_p (hp_ll (m := m) (m' := m'))
theorem s_const {q : Int} (hp : zP1 mi pc = some (.iconst q, a, b, c)) : Z e d mi pc L st m = Z e d mi (pc + 1) L (.int (iI q) :: st) m := rv_const hp rfl
theorem s_bip {q : Int} (hp : zP1 mi pc = some (.bipush q, a, b, c)) (hv : (Int8.ofInt q).toInt32 = iI q) : Z e d mi pc L st m = Z e d mi (pc + 2) L (.int (iI q) :: st) m := rv_bip hp hv
theorem s_sip {q : Int} (hp : zP1 mi pc = some (.sipush q, a, b, c)) (hv : (Int16.ofInt q).toInt32 = iI q) : Z e d mi pc L st m = Z e d mi (pc + 3) L (.int (iI q) :: st) m := rv_sip hp hv
theorem s_ldc (hp : zP1 mi pc = some (.ldc i', 0, b, c)) : Z e d mi pc L st m = Z e d mi (pc + 2) L (.int (iI c) :: st) m := rv_ldci (Or.inl rfl) hp rfl
theorem s_ldcw (hp : zP1 mi pc = some (.ldc_w i', 0, b, c)) : Z e d mi pc L st m = Z e d mi (pc + 3) L (.int (iI c) :: st) m := rv_ldci (Or.inr rfl) hp rfl
theorem s_ldcs (hp : zP1 mi pc = some (.ldc i', 1, b, c)) (hk : c.toNat = k) : Z e d mi pc L st m = Z e d mi (pc + 2) L (.ref k :: st) m := rv_ldcs (Or.inl rfl) hp hk
theorem s_ldcsw (hp : zP1 mi pc = some (.ldc_w i', 1, b, c)) (hk : c.toNat = k) : Z e d mi pc L st m = Z e d mi (pc + 3) L (.ref k :: st) m := rv_ldcs (Or.inr rfl) hp hk
theorem s_ldcl {w : Int64} (hp : zP1 mi pc = some (.ldc2_w i', a, b, c)) (hk : Int64.ofInt c = w) : Z e d mi pc L st m = Z e d mi (pc + 3) L (.long w :: st) m := rv_ldcl hp hk
theorem s_il_0 (hp : zP1 mi pc = some (.iload_n 0, a, b, c)) : Z e d mi pc (.int (iI x) :: L) st m = Z e d mi (pc + 1) (.int (iI x) :: L) (.int (iI x) :: st) m := rv_loc hp rfl rfl
theorem s_is_0 (hp : zP1 mi pc = some (.istore_n 0, a, b, c)) : Z e d mi pc (v :: L) (.int (iI x) :: st) m = Z e d mi (pc + 1) (.int (iI x) :: L) st m := rv_loc hp rfl (by simp [zloc, zsto, zlong])
theorem s_al_0 (hp : zP1 mi pc = some (.aload_n 0, a, b, c)) : Z e d mi pc (.ref k :: L) st m = Z e d mi (pc + 1) (.ref k :: L) (.ref k :: st) m := rv_loc hp rfl rfl
theorem s_as_0 (hp : zP1 mi pc = some (.astore_n 0, a, b, c)) : Z e d mi pc (v :: L) (.ref k :: st) m = Z e d mi (pc + 1) (.ref k :: L) st m := rv_loc hp rfl (by simp [zloc, zsto, zlong])
theorem s_inc_0 {q : Int} (hp : zP1 mi pc = some (.iinc 0 q, a, b, c)) : Z e d mi pc (.int (iI x) :: L) st m = Z e d mi (pc + 3) (.int (iI (x + q)) :: L) st m := rv_inc hp (by simp [zinc, zlong, ← iI_add]; rfl)
theorem s_ll_0 {w : Int64} (hp : zP1 mi pc = some (.lload_n 0, a, b, c)) : Z e d mi pc (.long w :: L) st m = Z e d mi (pc + 1) (.long w :: L) (.long w :: st) m := rv_loc hp rfl rfl
theorem s_il_1 (hp : zP1 mi pc = some (.iload_n 1, a, b, c)) : Z e d mi pc (l0 :: .int (iI x) :: L) st m = Z e d mi (pc + 1) (l0 :: .int (iI x) :: L) (.int (iI x) :: st) m := rv_loc hp rfl rfl
theorem s_is_1 (hc : l0.category = 1) (hp : zP1 mi pc = some (.istore_n 1, a, b, c)) : Z e d mi pc (l0 :: v :: L) (.int (iI x) :: st) m = Z e d mi (pc + 1) (l0 :: .int (iI x) :: L) st m := rv_loc hp rfl (by simp [zloc, zsto, zlong, hc])
theorem s_al_1 (hp : zP1 mi pc = some (.aload_n 1, a, b, c)) : Z e d mi pc (l0 :: .ref k :: L) st m = Z e d mi (pc + 1) (l0 :: .ref k :: L) (.ref k :: st) m := rv_loc hp rfl rfl
theorem s_as_1 (hc : l0.category = 1) (hp : zP1 mi pc = some (.astore_n 1, a, b, c)) : Z e d mi pc (l0 :: v :: L) (.ref k :: st) m = Z e d mi (pc + 1) (l0 :: .ref k :: L) st m := rv_loc hp rfl (by simp [zloc, zsto, zlong, hc])
theorem s_inc_1 (hc : l0.category = 1) {q : Int} (hp : zP1 mi pc = some (.iinc 1 q, a, b, c)) : Z e d mi pc (l0 :: .int (iI x) :: L) st m = Z e d mi (pc + 3) (l0 :: .int (iI (x + q)) :: L) st m := rv_inc hp (by simp [zinc, zlong, hc, ← iI_add]; rfl)
theorem s_ll_1 {w : Int64} (hp : zP1 mi pc = some (.lload_n 1, a, b, c)) : Z e d mi pc (l0 :: .long w :: L) st m = Z e d mi (pc + 1) (l0 :: .long w :: L) (.long w :: st) m := rv_loc hp rfl rfl
theorem s_il_2 (hp : zP1 mi pc = some (.iload_n 2, a, b, c)) : Z e d mi pc (l0 :: l1 :: .int (iI x) :: L) st m = Z e d mi (pc + 1) (l0 :: l1 :: .int (iI x) :: L) (.int (iI x) :: st) m := rv_loc hp rfl rfl
theorem s_is_2 (hc : l1.category = 1) (hp : zP1 mi pc = some (.istore_n 2, a, b, c)) : Z e d mi pc (l0 :: l1 :: v :: L) (.int (iI x) :: st) m = Z e d mi (pc + 1) (l0 :: l1 :: .int (iI x) :: L) st m := rv_loc hp rfl (by simp [zloc, zsto, zlong, hc])
theorem s_al_2 (hp : zP1 mi pc = some (.aload_n 2, a, b, c)) : Z e d mi pc (l0 :: l1 :: .ref k :: L) st m = Z e d mi (pc + 1) (l0 :: l1 :: .ref k :: L) (.ref k :: st) m := rv_loc hp rfl rfl
theorem s_as_2 (hc : l1.category = 1) (hp : zP1 mi pc = some (.astore_n 2, a, b, c)) : Z e d mi pc (l0 :: l1 :: v :: L) (.ref k :: st) m = Z e d mi (pc + 1) (l0 :: l1 :: .ref k :: L) st m := rv_loc hp rfl (by simp [zloc, zsto, zlong, hc])
theorem s_inc_2 (hc : l1.category = 1) {q : Int} (hp : zP1 mi pc = some (.iinc 2 q, a, b, c)) : Z e d mi pc (l0 :: l1 :: .int (iI x) :: L) st m = Z e d mi (pc + 3) (l0 :: l1 :: .int (iI (x + q)) :: L) st m := rv_inc hp (by simp [zinc, zlong, hc, ← iI_add]; rfl)
theorem s_ll_2 {w : Int64} (hp : zP1 mi pc = some (.lload_n 2, a, b, c)) : Z e d mi pc (l0 :: l1 :: .long w :: L) st m = Z e d mi (pc + 1) (l0 :: l1 :: .long w :: L) (.long w :: st) m := rv_loc hp rfl rfl
theorem s_il_3 (hp : zP1 mi pc = some (.iload_n 3, a, b, c)) : Z e d mi pc (l0 :: l1 :: l2 :: .int (iI x) :: L) st m = Z e d mi (pc + 1) (l0 :: l1 :: l2 :: .int (iI x) :: L) (.int (iI x) :: st) m := rv_loc hp rfl rfl
theorem s_is_3 (hc : l2.category = 1) (hp : zP1 mi pc = some (.istore_n 3, a, b, c)) : Z e d mi pc (l0 :: l1 :: l2 :: v :: L) (.int (iI x) :: st) m = Z e d mi (pc + 1) (l0 :: l1 :: l2 :: .int (iI x) :: L) st m := rv_loc hp rfl (by simp [zloc, zsto, zlong, hc]; exact ⟨by show 3 < _; omega, rfl⟩)
theorem s_al_3 (hp : zP1 mi pc = some (.aload_n 3, a, b, c)) : Z e d mi pc (l0 :: l1 :: l2 :: .ref k :: L) st m = Z e d mi (pc + 1) (l0 :: l1 :: l2 :: .ref k :: L) (.ref k :: st) m := rv_loc hp rfl rfl
theorem s_as_3 (hc : l2.category = 1) (hp : zP1 mi pc = some (.astore_n 3, a, b, c)) : Z e d mi pc (l0 :: l1 :: l2 :: v :: L) (.ref k :: st) m = Z e d mi (pc + 1) (l0 :: l1 :: l2 :: .ref k :: L) st m := rv_loc hp rfl (by simp [zloc, zsto, zlong, hc]; exact ⟨by show 3 < _; omega, rfl⟩)
theorem s_inc_3 (hc : l2.category = 1) {q : Int} (hp : zP1 mi pc = some (.iinc 3 q, a, b, c)) : Z e d mi pc (l0 :: l1 :: l2 :: .int (iI x) :: L) st m = Z e d mi (pc + 3) (l0 :: l1 :: l2 :: .int (iI (x + q)) :: L) st m := rv_inc hp (by simp [zinc, zlong, hc, ← iI_add]; rfl)
theorem s_ll_3 {w : Int64} (hp : zP1 mi pc = some (.lload_n 3, a, b, c)) : Z e d mi pc (l0 :: l1 :: l2 :: .long w :: L) st m = Z e d mi (pc + 1) (l0 :: l1 :: l2 :: .long w :: L) (.long w :: st) m := rv_loc hp rfl rfl
theorem s_il_4 (hp : zP1 mi pc = some (.iload 4, a, b, c)) : Z e d mi pc (l0 :: l1 :: l2 :: l3 :: .int (iI x) :: L) st m = Z e d mi (pc + 2) (l0 :: l1 :: l2 :: l3 :: .int (iI x) :: L) (.int (iI x) :: st) m := rv_loc hp rfl rfl
theorem s_is_4 (hc : l3.category = 1) (hp : zP1 mi pc = some (.istore 4, a, b, c)) : Z e d mi pc (l0 :: l1 :: l2 :: l3 :: v :: L) (.int (iI x) :: st) m = Z e d mi (pc + 2) (l0 :: l1 :: l2 :: l3 :: .int (iI x) :: L) st m := rv_loc hp rfl (by simp [zloc, zsto, zlong, hc])
theorem s_al_4 (hp : zP1 mi pc = some (.aload 4, a, b, c)) : Z e d mi pc (l0 :: l1 :: l2 :: l3 :: .ref k :: L) st m = Z e d mi (pc + 2) (l0 :: l1 :: l2 :: l3 :: .ref k :: L) (.ref k :: st) m := rv_loc hp rfl rfl
theorem s_as_4 (hc : l3.category = 1) (hp : zP1 mi pc = some (.astore 4, a, b, c)) : Z e d mi pc (l0 :: l1 :: l2 :: l3 :: v :: L) (.ref k :: st) m = Z e d mi (pc + 2) (l0 :: l1 :: l2 :: l3 :: .ref k :: L) st m := rv_loc hp rfl (by simp [zloc, zsto, zlong, hc])
theorem s_inc_4 (hc : l3.category = 1) {q : Int} (hp : zP1 mi pc = some (.iinc 4 q, a, b, c)) : Z e d mi pc (l0 :: l1 :: l2 :: l3 :: .int (iI x) :: L) st m = Z e d mi (pc + 3) (l0 :: l1 :: l2 :: l3 :: .int (iI (x + q)) :: L) st m := rv_inc hp (by simp [zinc, zlong, hc, ← iI_add]; rfl)
theorem s_il_5 (hp : zP1 mi pc = some (.iload 5, a, b, c)) : Z e d mi pc (l0 :: l1 :: l2 :: l3 :: l4 :: .int (iI x) :: L) st m = Z e d mi (pc + 2) (l0 :: l1 :: l2 :: l3 :: l4 :: .int (iI x) :: L) (.int (iI x) :: st) m := rv_loc hp rfl rfl
theorem s_is_5 (hc : l4.category = 1) (hp : zP1 mi pc = some (.istore 5, a, b, c)) : Z e d mi pc (l0 :: l1 :: l2 :: l3 :: l4 :: v :: L) (.int (iI x) :: st) m = Z e d mi (pc + 2) (l0 :: l1 :: l2 :: l3 :: l4 :: .int (iI x) :: L) st m := rv_loc hp rfl (by simp [zloc, zsto, zlong, hc])
theorem s_al_5 (hp : zP1 mi pc = some (.aload 5, a, b, c)) : Z e d mi pc (l0 :: l1 :: l2 :: l3 :: l4 :: .ref k :: L) st m = Z e d mi (pc + 2) (l0 :: l1 :: l2 :: l3 :: l4 :: .ref k :: L) (.ref k :: st) m := rv_loc hp rfl rfl
theorem s_as_5 (hc : l4.category = 1) (hp : zP1 mi pc = some (.astore 5, a, b, c)) : Z e d mi pc (l0 :: l1 :: l2 :: l3 :: l4 :: v :: L) (.ref k :: st) m = Z e d mi (pc + 2) (l0 :: l1 :: l2 :: l3 :: l4 :: .ref k :: L) st m := rv_loc hp rfl (by simp [zloc, zsto, zlong, hc])
theorem s_inc_5 (hc : l4.category = 1) {q : Int} (hp : zP1 mi pc = some (.iinc 5 q, a, b, c)) : Z e d mi pc (l0 :: l1 :: l2 :: l3 :: l4 :: .int (iI x) :: L) st m = Z e d mi (pc + 3) (l0 :: l1 :: l2 :: l3 :: l4 :: .int (iI (x + q)) :: L) st m := rv_inc hp (by simp [zinc, zlong, hc, ← iI_add]; rfl)
theorem s_il_6 (hp : zP1 mi pc = some (.iload 6, a, b, c)) : Z e d mi pc (l0 :: l1 :: l2 :: l3 :: l4 :: l5 :: .int (iI x) :: L) st m = Z e d mi (pc + 2) (l0 :: l1 :: l2 :: l3 :: l4 :: l5 :: .int (iI x) :: L) (.int (iI x) :: st) m := rv_loc hp rfl rfl
theorem s_is_6 (hc : l5.category = 1) (hp : zP1 mi pc = some (.istore 6, a, b, c)) : Z e d mi pc (l0 :: l1 :: l2 :: l3 :: l4 :: l5 :: v :: L) (.int (iI x) :: st) m = Z e d mi (pc + 2) (l0 :: l1 :: l2 :: l3 :: l4 :: l5 :: .int (iI x) :: L) st m := rv_loc hp rfl (by simp [zloc, zsto, zlong, hc])
theorem s_al_6 (hp : zP1 mi pc = some (.aload 6, a, b, c)) : Z e d mi pc (l0 :: l1 :: l2 :: l3 :: l4 :: l5 :: .ref k :: L) st m = Z e d mi (pc + 2) (l0 :: l1 :: l2 :: l3 :: l4 :: l5 :: .ref k :: L) (.ref k :: st) m := rv_loc hp rfl rfl
theorem s_as_6 (hc : l5.category = 1) (hp : zP1 mi pc = some (.astore 6, a, b, c)) : Z e d mi pc (l0 :: l1 :: l2 :: l3 :: l4 :: l5 :: v :: L) (.ref k :: st) m = Z e d mi (pc + 2) (l0 :: l1 :: l2 :: l3 :: l4 :: l5 :: .ref k :: L) st m := rv_loc hp rfl (by simp [zloc, zsto, zlong, hc])
theorem s_inc_6 (hc : l5.category = 1) {q : Int} (hp : zP1 mi pc = some (.iinc 6 q, a, b, c)) : Z e d mi pc (l0 :: l1 :: l2 :: l3 :: l4 :: l5 :: .int (iI x) :: L) st m = Z e d mi (pc + 3) (l0 :: l1 :: l2 :: l3 :: l4 :: l5 :: .int (iI (x + q)) :: L) st m := rv_inc hp (by simp [zinc, zlong, hc, ← iI_add]; rfl)
theorem s_il_7 (hp : zP1 mi pc = some (.iload 7, a, b, c)) : Z e d mi pc (l0 :: l1 :: l2 :: l3 :: l4 :: l5 :: l6 :: .int (iI x) :: L) st m = Z e d mi (pc + 2) (l0 :: l1 :: l2 :: l3 :: l4 :: l5 :: l6 :: .int (iI x) :: L) (.int (iI x) :: st) m := rv_loc hp rfl rfl
theorem s_is_7 (hc : l6.category = 1) (hp : zP1 mi pc = some (.istore 7, a, b, c)) : Z e d mi pc (l0 :: l1 :: l2 :: l3 :: l4 :: l5 :: l6 :: v :: L) (.int (iI x) :: st) m = Z e d mi (pc + 2) (l0 :: l1 :: l2 :: l3 :: l4 :: l5 :: l6 :: .int (iI x) :: L) st m := rv_loc hp rfl (by simp [zloc, zsto, zlong, hc])
theorem s_al_7 (hp : zP1 mi pc = some (.aload 7, a, b, c)) : Z e d mi pc (l0 :: l1 :: l2 :: l3 :: l4 :: l5 :: l6 :: .ref k :: L) st m = Z e d mi (pc + 2) (l0 :: l1 :: l2 :: l3 :: l4 :: l5 :: l6 :: .ref k :: L) (.ref k :: st) m := rv_loc hp rfl rfl
theorem s_as_7 (hc : l6.category = 1) (hp : zP1 mi pc = some (.astore 7, a, b, c)) : Z e d mi pc (l0 :: l1 :: l2 :: l3 :: l4 :: l5 :: l6 :: v :: L) (.ref k :: st) m = Z e d mi (pc + 2) (l0 :: l1 :: l2 :: l3 :: l4 :: l5 :: l6 :: .ref k :: L) st m := rv_loc hp rfl (by simp [zloc, zsto, zlong, hc])
theorem s_inc_7 (hc : l6.category = 1) {q : Int} (hp : zP1 mi pc = some (.iinc 7 q, a, b, c)) : Z e d mi pc (l0 :: l1 :: l2 :: l3 :: l4 :: l5 :: l6 :: .int (iI x) :: L) st m = Z e d mi (pc + 3) (l0 :: l1 :: l2 :: l3 :: l4 :: l5 :: l6 :: .int (iI (x + q)) :: L) st m := rv_inc hp (by simp [zinc, zlong, hc, ← iI_add]; rfl)
theorem s_il_8 (hp : zP1 mi pc = some (.iload 8, a, b, c)) : Z e d mi pc (l0 :: l1 :: l2 :: l3 :: l4 :: l5 :: l6 :: l7 :: .int (iI x) :: L) st m = Z e d mi (pc + 2) (l0 :: l1 :: l2 :: l3 :: l4 :: l5 :: l6 :: l7 :: .int (iI x) :: L) (.int (iI x) :: st) m := rv_loc hp rfl rfl
theorem s_is_8 (hc : l7.category = 1) (hp : zP1 mi pc = some (.istore 8, a, b, c)) : Z e d mi pc (l0 :: l1 :: l2 :: l3 :: l4 :: l5 :: l6 :: l7 :: v :: L) (.int (iI x) :: st) m = Z e d mi (pc + 2) (l0 :: l1 :: l2 :: l3 :: l4 :: l5 :: l6 :: l7 :: .int (iI x) :: L) st m := rv_loc hp rfl (by simp [zloc, zsto, zlong, hc])
theorem s_al_8 (hp : zP1 mi pc = some (.aload 8, a, b, c)) : Z e d mi pc (l0 :: l1 :: l2 :: l3 :: l4 :: l5 :: l6 :: l7 :: .ref k :: L) st m = Z e d mi (pc + 2) (l0 :: l1 :: l2 :: l3 :: l4 :: l5 :: l6 :: l7 :: .ref k :: L) (.ref k :: st) m := rv_loc hp rfl rfl
theorem s_as_8 (hc : l7.category = 1) (hp : zP1 mi pc = some (.astore 8, a, b, c)) : Z e d mi pc (l0 :: l1 :: l2 :: l3 :: l4 :: l5 :: l6 :: l7 :: v :: L) (.ref k :: st) m = Z e d mi (pc + 2) (l0 :: l1 :: l2 :: l3 :: l4 :: l5 :: l6 :: l7 :: .ref k :: L) st m := rv_loc hp rfl (by simp [zloc, zsto, zlong, hc])
theorem s_inc_8 (hc : l7.category = 1) {q : Int} (hp : zP1 mi pc = some (.iinc 8 q, a, b, c)) : Z e d mi pc (l0 :: l1 :: l2 :: l3 :: l4 :: l5 :: l6 :: l7 :: .int (iI x) :: L) st m = Z e d mi (pc + 3) (l0 :: l1 :: l2 :: l3 :: l4 :: l5 :: l6 :: l7 :: .int (iI (x + q)) :: L) st m := rv_inc hp (by simp [zinc, zlong, hc, ← iI_add]; rfl)
theorem s_il_9 (hp : zP1 mi pc = some (.iload 9, a, b, c)) : Z e d mi pc (l0 :: l1 :: l2 :: l3 :: l4 :: l5 :: l6 :: l7 :: l8 :: .int (iI x) :: L) st m = Z e d mi (pc + 2) (l0 :: l1 :: l2 :: l3 :: l4 :: l5 :: l6 :: l7 :: l8 :: .int (iI x) :: L) (.int (iI x) :: st) m := rv_loc hp rfl rfl
theorem s_is_9 (hc : l8.category = 1) (hp : zP1 mi pc = some (.istore 9, a, b, c)) : Z e d mi pc (l0 :: l1 :: l2 :: l3 :: l4 :: l5 :: l6 :: l7 :: l8 :: v :: L) (.int (iI x) :: st) m = Z e d mi (pc + 2) (l0 :: l1 :: l2 :: l3 :: l4 :: l5 :: l6 :: l7 :: l8 :: .int (iI x) :: L) st m := rv_loc hp rfl (by simp [zloc, zsto, zlong, hc])
theorem s_al_9 (hp : zP1 mi pc = some (.aload 9, a, b, c)) : Z e d mi pc (l0 :: l1 :: l2 :: l3 :: l4 :: l5 :: l6 :: l7 :: l8 :: .ref k :: L) st m = Z e d mi (pc + 2) (l0 :: l1 :: l2 :: l3 :: l4 :: l5 :: l6 :: l7 :: l8 :: .ref k :: L) (.ref k :: st) m := rv_loc hp rfl rfl
theorem s_as_9 (hc : l8.category = 1) (hp : zP1 mi pc = some (.astore 9, a, b, c)) : Z e d mi pc (l0 :: l1 :: l2 :: l3 :: l4 :: l5 :: l6 :: l7 :: l8 :: v :: L) (.ref k :: st) m = Z e d mi (pc + 2) (l0 :: l1 :: l2 :: l3 :: l4 :: l5 :: l6 :: l7 :: l8 :: .ref k :: L) st m := rv_loc hp rfl (by simp [zloc, zsto, zlong, hc])
theorem s_inc_9 (hc : l8.category = 1) {q : Int} (hp : zP1 mi pc = some (.iinc 9 q, a, b, c)) : Z e d mi pc (l0 :: l1 :: l2 :: l3 :: l4 :: l5 :: l6 :: l7 :: l8 :: .int (iI x) :: L) st m = Z e d mi (pc + 3) (l0 :: l1 :: l2 :: l3 :: l4 :: l5 :: l6 :: l7 :: l8 :: .int (iI (x + q)) :: L) st m := rv_inc hp (by simp [zinc, zlong, hc, ← iI_add]; rfl)
theorem s_il_10 (hp : zP1 mi pc = some (.iload 10, a, b, c)) : Z e d mi pc (l0 :: l1 :: l2 :: l3 :: l4 :: l5 :: l6 :: l7 :: l8 :: l9 :: .int (iI x) :: L) st m = Z e d mi (pc + 2) (l0 :: l1 :: l2 :: l3 :: l4 :: l5 :: l6 :: l7 :: l8 :: l9 :: .int (iI x) :: L) (.int (iI x) :: st) m := rv_loc hp rfl rfl
theorem s_is_10 (hc : l9.category = 1) (hp : zP1 mi pc = some (.istore 10, a, b, c)) : Z e d mi pc (l0 :: l1 :: l2 :: l3 :: l4 :: l5 :: l6 :: l7 :: l8 :: l9 :: v :: L) (.int (iI x) :: st) m = Z e d mi (pc + 2) (l0 :: l1 :: l2 :: l3 :: l4 :: l5 :: l6 :: l7 :: l8 :: l9 :: .int (iI x) :: L) st m := rv_loc hp rfl (by simp [zloc, zsto, zlong, hc])
theorem s_al_10 (hp : zP1 mi pc = some (.aload 10, a, b, c)) : Z e d mi pc (l0 :: l1 :: l2 :: l3 :: l4 :: l5 :: l6 :: l7 :: l8 :: l9 :: .ref k :: L) st m = Z e d mi (pc + 2) (l0 :: l1 :: l2 :: l3 :: l4 :: l5 :: l6 :: l7 :: l8 :: l9 :: .ref k :: L) (.ref k :: st) m := rv_loc hp rfl rfl
theorem s_as_10 (hc : l9.category = 1) (hp : zP1 mi pc = some (.astore 10, a, b, c)) : Z e d mi pc (l0 :: l1 :: l2 :: l3 :: l4 :: l5 :: l6 :: l7 :: l8 :: l9 :: v :: L) (.ref k :: st) m = Z e d mi (pc + 2) (l0 :: l1 :: l2 :: l3 :: l4 :: l5 :: l6 :: l7 :: l8 :: l9 :: .ref k :: L) st m := rv_loc hp rfl (by simp [zloc, zsto, zlong, hc])
theorem s_inc_10 (hc : l9.category = 1) {q : Int} (hp : zP1 mi pc = some (.iinc 10 q, a, b, c)) : Z e d mi pc (l0 :: l1 :: l2 :: l3 :: l4 :: l5 :: l6 :: l7 :: l8 :: l9 :: .int (iI x) :: L) st m = Z e d mi (pc + 3) (l0 :: l1 :: l2 :: l3 :: l4 :: l5 :: l6 :: l7 :: l8 :: l9 :: .int (iI (x + q)) :: L) st m := rv_inc hp (by simp [zinc, zlong, hc, ← iI_add]; rfl)
theorem s_il_11 (hp : zP1 mi pc = some (.iload 11, a, b, c)) : Z e d mi pc (l0 :: l1 :: l2 :: l3 :: l4 :: l5 :: l6 :: l7 :: l8 :: l9 :: l10 :: .int (iI x) :: L) st m = Z e d mi (pc + 2) (l0 :: l1 :: l2 :: l3 :: l4 :: l5 :: l6 :: l7 :: l8 :: l9 :: l10 :: .int (iI x) :: L) (.int (iI x) :: st) m := rv_loc hp rfl rfl
theorem s_is_11 (hc : l10.category = 1) (hp : zP1 mi pc = some (.istore 11, a, b, c)) : Z e d mi pc (l0 :: l1 :: l2 :: l3 :: l4 :: l5 :: l6 :: l7 :: l8 :: l9 :: l10 :: v :: L) (.int (iI x) :: st) m = Z e d mi (pc + 2) (l0 :: l1 :: l2 :: l3 :: l4 :: l5 :: l6 :: l7 :: l8 :: l9 :: l10 :: .int (iI x) :: L) st m := rv_loc hp rfl (by simp [zloc, zsto, zlong, hc])
theorem s_al_11 (hp : zP1 mi pc = some (.aload 11, a, b, c)) : Z e d mi pc (l0 :: l1 :: l2 :: l3 :: l4 :: l5 :: l6 :: l7 :: l8 :: l9 :: l10 :: .ref k :: L) st m = Z e d mi (pc + 2) (l0 :: l1 :: l2 :: l3 :: l4 :: l5 :: l6 :: l7 :: l8 :: l9 :: l10 :: .ref k :: L) (.ref k :: st) m := rv_loc hp rfl rfl
theorem s_as_11 (hc : l10.category = 1) (hp : zP1 mi pc = some (.astore 11, a, b, c)) : Z e d mi pc (l0 :: l1 :: l2 :: l3 :: l4 :: l5 :: l6 :: l7 :: l8 :: l9 :: l10 :: v :: L) (.ref k :: st) m = Z e d mi (pc + 2) (l0 :: l1 :: l2 :: l3 :: l4 :: l5 :: l6 :: l7 :: l8 :: l9 :: l10 :: .ref k :: L) st m := rv_loc hp rfl (by simp [zloc, zsto, zlong, hc])
theorem s_inc_11 (hc : l10.category = 1) {q : Int} (hp : zP1 mi pc = some (.iinc 11 q, a, b, c)) : Z e d mi pc (l0 :: l1 :: l2 :: l3 :: l4 :: l5 :: l6 :: l7 :: l8 :: l9 :: l10 :: .int (iI x) :: L) st m = Z e d mi (pc + 3) (l0 :: l1 :: l2 :: l3 :: l4 :: l5 :: l6 :: l7 :: l8 :: l9 :: l10 :: .int (iI (x + q)) :: L) st m := rv_inc hp (by simp [zinc, zlong, hc, ← iI_add]; rfl)
theorem s_il_12 (hp : zP1 mi pc = some (.iload 12, a, b, c)) : Z e d mi pc (l0 :: l1 :: l2 :: l3 :: l4 :: l5 :: l6 :: l7 :: l8 :: l9 :: l10 :: l11 :: .int (iI x) :: L) st m = Z e d mi (pc + 2) (l0 :: l1 :: l2 :: l3 :: l4 :: l5 :: l6 :: l7 :: l8 :: l9 :: l10 :: l11 :: .int (iI x) :: L) (.int (iI x) :: st) m := rv_loc hp rfl rfl
theorem s_is_12 (hc : l11.category = 1) (hp : zP1 mi pc = some (.istore 12, a, b, c)) : Z e d mi pc (l0 :: l1 :: l2 :: l3 :: l4 :: l5 :: l6 :: l7 :: l8 :: l9 :: l10 :: l11 :: v :: L) (.int (iI x) :: st) m = Z e d mi (pc + 2) (l0 :: l1 :: l2 :: l3 :: l4 :: l5 :: l6 :: l7 :: l8 :: l9 :: l10 :: l11 :: .int (iI x) :: L) st m := rv_loc hp rfl (by simp [zloc, zsto, zlong, hc])
theorem s_al_12 (hp : zP1 mi pc = some (.aload 12, a, b, c)) : Z e d mi pc (l0 :: l1 :: l2 :: l3 :: l4 :: l5 :: l6 :: l7 :: l8 :: l9 :: l10 :: l11 :: .ref k :: L) st m = Z e d mi (pc + 2) (l0 :: l1 :: l2 :: l3 :: l4 :: l5 :: l6 :: l7 :: l8 :: l9 :: l10 :: l11 :: .ref k :: L) (.ref k :: st) m := rv_loc hp rfl rfl
theorem s_as_12 (hc : l11.category = 1) (hp : zP1 mi pc = some (.astore 12, a, b, c)) : Z e d mi pc (l0 :: l1 :: l2 :: l3 :: l4 :: l5 :: l6 :: l7 :: l8 :: l9 :: l10 :: l11 :: v :: L) (.ref k :: st) m = Z e d mi (pc + 2) (l0 :: l1 :: l2 :: l3 :: l4 :: l5 :: l6 :: l7 :: l8 :: l9 :: l10 :: l11 :: .ref k :: L) st m := rv_loc hp rfl (by simp [zloc, zsto, zlong, hc])
theorem s_inc_12 (hc : l11.category = 1) {q : Int} (hp : zP1 mi pc = some (.iinc 12 q, a, b, c)) : Z e d mi pc (l0 :: l1 :: l2 :: l3 :: l4 :: l5 :: l6 :: l7 :: l8 :: l9 :: l10 :: l11 :: .int (iI x) :: L) st m = Z e d mi (pc + 3) (l0 :: l1 :: l2 :: l3 :: l4 :: l5 :: l6 :: l7 :: l8 :: l9 :: l10 :: l11 :: .int (iI (x + q)) :: L) st m := rv_inc hp (by simp [zinc, zlong, hc, ← iI_add]; rfl)
theorem s_il_13 (hp : zP1 mi pc = some (.iload 13, a, b, c)) : Z e d mi pc (l0 :: l1 :: l2 :: l3 :: l4 :: l5 :: l6 :: l7 :: l8 :: l9 :: l10 :: l11 :: l12 :: .int (iI x) :: L) st m = Z e d mi (pc + 2) (l0 :: l1 :: l2 :: l3 :: l4 :: l5 :: l6 :: l7 :: l8 :: l9 :: l10 :: l11 :: l12 :: .int (iI x) :: L) (.int (iI x) :: st) m := rv_loc hp rfl rfl
theorem s_is_13 (hc : l12.category = 1) (hp : zP1 mi pc = some (.istore 13, a, b, c)) : Z e d mi pc (l0 :: l1 :: l2 :: l3 :: l4 :: l5 :: l6 :: l7 :: l8 :: l9 :: l10 :: l11 :: l12 :: v :: L) (.int (iI x) :: st) m = Z e d mi (pc + 2) (l0 :: l1 :: l2 :: l3 :: l4 :: l5 :: l6 :: l7 :: l8 :: l9 :: l10 :: l11 :: l12 :: .int (iI x) :: L) st m := rv_loc hp rfl (by simp [zloc, zsto, zlong, hc])
theorem s_al_13 (hp : zP1 mi pc = some (.aload 13, a, b, c)) : Z e d mi pc (l0 :: l1 :: l2 :: l3 :: l4 :: l5 :: l6 :: l7 :: l8 :: l9 :: l10 :: l11 :: l12 :: .ref k :: L) st m = Z e d mi (pc + 2) (l0 :: l1 :: l2 :: l3 :: l4 :: l5 :: l6 :: l7 :: l8 :: l9 :: l10 :: l11 :: l12 :: .ref k :: L) (.ref k :: st) m := rv_loc hp rfl rfl
theorem s_as_13 (hc : l12.category = 1) (hp : zP1 mi pc = some (.astore 13, a, b, c)) : Z e d mi pc (l0 :: l1 :: l2 :: l3 :: l4 :: l5 :: l6 :: l7 :: l8 :: l9 :: l10 :: l11 :: l12 :: v :: L) (.ref k :: st) m = Z e d mi (pc + 2) (l0 :: l1 :: l2 :: l3 :: l4 :: l5 :: l6 :: l7 :: l8 :: l9 :: l10 :: l11 :: l12 :: .ref k :: L) st m := rv_loc hp rfl (by simp [zloc, zsto, zlong, hc])
theorem s_inc_13 (hc : l12.category = 1) {q : Int} (hp : zP1 mi pc = some (.iinc 13 q, a, b, c)) : Z e d mi pc (l0 :: l1 :: l2 :: l3 :: l4 :: l5 :: l6 :: l7 :: l8 :: l9 :: l10 :: l11 :: l12 :: .int (iI x) :: L) st m = Z e d mi (pc + 3) (l0 :: l1 :: l2 :: l3 :: l4 :: l5 :: l6 :: l7 :: l8 :: l9 :: l10 :: l11 :: l12 :: .int (iI (x + q)) :: L) st m := rv_inc hp (by simp [zinc, zlong, hc, ← iI_add]; rfl)
theorem s_iadd (hp : zP1 mi pc = some (.iadd, a, b, c)) : Z e d mi pc L (.int (iI y) :: .int (iI x) :: st) m = Z e d mi (pc + 1) L (.int (iI (x + y)) :: st) m := rv_stk hp rfl (congrArg (fun q => some (Value.int q :: st)) iI_add)
theorem s_isub (hp : zP1 mi pc = some (.isub, a, b, c)) : Z e d mi pc L (.int (iI y) :: .int (iI x) :: st) m = Z e d mi (pc + 1) L (.int (iI (x - y)) :: st) m := rv_stk hp rfl (congrArg (fun q => some (Value.int q :: st)) iI_sub)
theorem s_imul (hp : zP1 mi pc = some (.imul, a, b, c)) : Z e d mi pc L (.int (iI y) :: .int (iI x) :: st) m = Z e d mi (pc + 1) L (.int (iI (x * y)) :: st) m := rv_stk hp rfl (congrArg (fun q => some (Value.int q :: st)) iI_mul)
theorem s_iand (hp : zP1 mi pc = some (.iand, a, b, c)) : Z e d mi pc L (.int (iI y) :: .int (iI x) :: st) m = Z e d mi (pc + 1) L (.int (iI (jand x y)) :: st) m := rv_stk hp rfl (congrArg (fun q => some (Value.int q :: st)) jand_ok)
theorem s_ior (hp : zP1 mi pc = some (.ior, a, b, c)) : Z e d mi pc L (.int (iI y) :: .int (iI x) :: st) m = Z e d mi (pc + 1) L (.int (iI (jor x y)) :: st) m := rv_stk hp rfl (congrArg (fun q => some (Value.int q :: st)) jor_ok)
theorem s_ixor (hp : zP1 mi pc = some (.ixor, a, b, c)) : Z e d mi pc L (.int (iI y) :: .int (iI x) :: st) m = Z e d mi (pc + 1) L (.int (iI (jxor x y)) :: st) m := rv_stk hp rfl (congrArg (fun q => some (Value.int q :: st)) jxor_ok)
theorem s_ishl (hp : zP1 mi pc = some (.ishl, a, b, c)) : Z e d mi pc L (.int (iI y) :: .int (iI x) :: st) m = Z e d mi (pc + 1) L (.int (iI (jshl x y)) :: st) m := rv_stk hp rfl (congrArg (fun q => some (Value.int q :: st)) jshl_ok)
theorem s_ishr (hp : zP1 mi pc = some (.ishr, a, b, c)) : Z e d mi pc L (.int (iI y) :: .int (iI x) :: st) m = Z e d mi (pc + 1) L (.int (iI (jshr x y)) :: st) m := rv_stk hp rfl (congrArg (fun q => some (Value.int q :: st)) jshr_ok)
theorem s_iushr (hp : zP1 mi pc = some (.iushr, a, b, c)) : Z e d mi pc L (.int (iI y) :: .int (iI x) :: st) m = Z e d mi (pc + 1) L (.int (iI (jush x y)) :: st) m := rv_stk hp rfl (congrArg (fun q => some (Value.int q :: st)) jush_ok)
theorem s_idiv (hp : zP1 mi pc = some (.idiv, a, b, c)) : Z e d mi pc L (.int (iI y) :: .int (iI x) :: st) m = ck (¬ wr y = 0) (Z e d mi (pc + 1) L (.int (iI (jdiv x y)) :: st) m) := by
  have e0 : iI y = 0 ↔ wr y = 0 := by rw [← iI_0, iI_eq]; rfl
  unfold ck
  by_cases h : wr y = 0
  · rw [if_neg (fun q => q h)]
    apply Option.eq_none_iff_forall_ne_some.mpr
    intro r hr
    obtain ⟨n, hn⟩ := rv_iff.mp hr
    cases n with
    | zero => cases hn
    | succ n =>
      rw [zexec, hp] at hn
      simp [zkd, zstk, zdiv, e0.mpr h] at hn
  · rw [if_pos h]
    exact rv_stk hp rfl (Eq.trans (if_neg (fun q => h (e0.mp q))) (congrArg (fun q => some (Value.int q :: st)) jdiv_ok))
theorem s_idivc (hp : zP1 mi pc = some (.idiv, a, b, c)) (hy : ¬ wr y = 0) : Z e d mi pc L (.int (iI y) :: .int (iI x) :: st) m = Z e d mi (pc + 1) L (.int (iI (jdiv x y)) :: st) m := Eq.trans (s_idiv hp) (ck_t hy)
theorem s_irem (hp : zP1 mi pc = some (.irem, a, b, c)) : Z e d mi pc L (.int (iI y) :: .int (iI x) :: st) m = ck (¬ wr y = 0) (Z e d mi (pc + 1) L (.int (iI (jrem x y)) :: st) m) := by
  have e0 : iI y = 0 ↔ wr y = 0 := by rw [← iI_0, iI_eq]; rfl
  unfold ck
  by_cases h : wr y = 0
  · rw [if_neg (fun q => q h)]
    apply Option.eq_none_iff_forall_ne_some.mpr
    intro r hr
    obtain ⟨n, hn⟩ := rv_iff.mp hr
    cases n with
    | zero => cases hn
    | succ n =>
      rw [zexec, hp] at hn
      simp [zkd, zstk, zdiv, e0.mpr h] at hn
  · rw [if_pos h]
    exact rv_stk hp rfl (Eq.trans (if_neg (fun q => h (e0.mp q))) (congrArg (fun q => some (Value.int q :: st)) jrem_ok))
theorem s_iremc (hp : zP1 mi pc = some (.irem, a, b, c)) (hy : ¬ wr y = 0) : Z e d mi pc L (.int (iI y) :: .int (iI x) :: st) m = Z e d mi (pc + 1) L (.int (iI (jrem x y)) :: st) m := Eq.trans (s_irem hp) (ck_t hy)
theorem s_ineg (hp : zP1 mi pc = some (.ineg, a, b, c)) : Z e d mi pc L (.int (iI x) :: st) m = Z e d mi (pc + 1) L (.int (iI (-x)) :: st) m := rv_stk hp rfl (congrArg (fun q => some (Value.int q :: st)) iI_neg)
theorem s_i2b (hp : zP1 mi pc = some (.i2b, a, b, c)) : Z e d mi pc L (.int (iI x) :: st) m = Z e d mi (pc + 1) L (.int (iI (j8 x)) :: st) m := rv_stk hp rfl (congrArg (fun q => some (Value.int q :: st)) j8_ok)
theorem s_i2s (hp : zP1 mi pc = some (.i2s, a, b, c)) : Z e d mi pc L (.int (iI x) :: st) m = Z e d mi (pc + 1) L (.int (iI (j16 x)) :: st) m := rv_stk hp rfl (congrArg (fun q => some (Value.int q :: st)) j16_ok)
theorem s_i2l (hp : zP1 mi pc = some (.i2l, a, b, c)) : Z e d mi pc L (.int (iI x) :: st) m = Z e d mi (pc + 1) L (.long (iI x).toInt64 :: st) m := rv_stk hp rfl rfl
theorem s_l2i {w : Int64} (hp : zP1 mi pc = some (.l2i, a, b, c)) : Z e d mi pc L (.long w :: st) m = Z e d mi (pc + 1) L (.int (iI w.toInt32.toInt) :: st) m := rv_stk hp rfl (congrArg (fun q => some (Value.int q :: st)) (iI_of _).symm)
theorem s_land {w u : Int64} (hp : zP1 mi pc = some (.land, a, b, c)) : Z e d mi pc L (.long w :: .long u :: st) m = Z e d mi (pc + 1) L (.long (u &&& w) :: st) m := rv_stk hp rfl rfl
theorem s_lor {w u : Int64} (hp : zP1 mi pc = some (.lor, a, b, c)) : Z e d mi pc L (.long w :: .long u :: st) m = Z e d mi (pc + 1) L (.long (u ||| w) :: st) m := rv_stk hp rfl rfl
theorem s_lshl {u : Int64} (hp : zP1 mi pc = some (.lshl, a, b, c)) : Z e d mi pc L (.int (iI y) :: .long u :: st) m = Z e d mi (pc + 1) L (.long (u <<< ((iI y).toInt64 &&& 63)) :: st) m := rv_stk hp rfl rfl
theorem s_lshr {u : Int64} (hp : zP1 mi pc = some (.lshr, a, b, c)) : Z e d mi pc L (.int (iI y) :: .long u :: st) m = Z e d mi (pc + 1) L (.long (u >>> ((iI y).toInt64 &&& 63)) :: st) m := rv_stk hp rfl rfl
theorem s_dup (hc : v.category = 1) (hp : zP1 mi pc = some (.dup, a, b, c)) : Z e d mi pc L (v :: st) m = Z e d mi (pc + 1) L (v :: v :: st) m := rv_stk hp rfl (if_pos hc)
theorem s_dup2 (hc : l0.category = 1) (hc2 : l1.category = 1) (hp : zP1 mi pc = some (.dup2, a, b, c)) : Z e d mi pc L (l0 :: l1 :: st) m = Z e d mi (pc + 1) L (l0 :: l1 :: l0 :: l1 :: st) m := rv_stk hp rfl (if_pos ⟨hc, hc2⟩)
theorem s_pop (hc : v.category = 1) (hp : zP1 mi pc = some (.pop, a, b, c)) : Z e d mi pc L (v :: st) m = Z e d mi (pc + 1) L st m := rv_stk hp rfl (if_pos hc)
theorem fl_lt {α : Type} {x y : Int} {A B : α} : (if x < y then A else B) = if y ≤ x then B else A := by
  by_cases h : x < y
  · rw [if_pos h, if_neg (by omega)]
  · rw [if_neg h, if_pos (by omega)]
theorem fl_le {α : Type} {x y : Int} {A B : α} : (if x ≤ y then A else B) = if y < x then B else A := by
  by_cases h : x ≤ y
  · rw [if_pos h, if_neg (by omega)]
  · rw [if_neg h, if_pos (by omega)]
theorem fl_n {α : Type} {p : Prop} [Decidable p] {A B : α} : (if ¬ p then A else B) = if p then B else A := by
  by_cases h : p <;> simp [h]
theorem s_c_eq_t {off : Int} {t : Nat} (hp : zP1 mi pc = some (.if_icmp .eq off, a, b, c)) (hj : zjmp pc off = some t) (hx : wr x = x') (hy : wr y = y') : Z e d mi pc L (.int (iI y) :: .int (iI x) :: st) m = if x' = y' then Z e d mi t L st m else Z e d mi (pc + 3) L st m := by
  subst hx hy
  exact rv_icmp hp hj (decide_eq_decide.mpr iI_eq)
theorem s_c_eq_f {off : Int} {t : Nat} (hp : zP1 mi pc = some (.if_icmp .eq off, a, b, c)) (hj : zjmp pc off = some t) (hx : wr x = x') (hy : wr y = y') : Z e d mi pc L (.int (iI y) :: .int (iI x) :: st) m = if ¬ x' = y' then Z e d mi (pc + 3) L st m else Z e d mi t L st m := Eq.trans (s_c_eq_t hp hj hx hy) fl_n.symm
theorem s_z_eq_t {off : Int} {t : Nat} (hp : zP1 mi pc = some (.ifCond .eq off, a, b, c)) (hj : zjmp pc off = some t) (hx : wr x = x') : Z e d mi pc L (.int (iI x) :: st) m = if x' = 0 then Z e d mi t L st m else Z e d mi (pc + 3) L st m := by
  subst hx
  exact rv_ifc hp hj (decide_eq_decide.mpr (iI_eq (y := 0)))
theorem s_z_eq_f {off : Int} {t : Nat} (hp : zP1 mi pc = some (.ifCond .eq off, a, b, c)) (hj : zjmp pc off = some t) (hx : wr x = x') : Z e d mi pc L (.int (iI x) :: st) m = if ¬ x' = 0 then Z e d mi (pc + 3) L st m else Z e d mi t L st m := Eq.trans (s_z_eq_t hp hj hx) fl_n.symm
theorem s_c_ne_t {off : Int} {t : Nat} (hp : zP1 mi pc = some (.if_icmp .ne off, a, b, c)) (hj : zjmp pc off = some t) (hx : wr x = x') (hy : wr y = y') : Z e d mi pc L (.int (iI y) :: .int (iI x) :: st) m = if ¬ x' = y' then Z e d mi t L st m else Z e d mi (pc + 3) L st m := by
  subst hx hy
  exact rv_icmp hp hj (decide_eq_decide.mpr (not_congr iI_eq))
theorem s_c_ne_f {off : Int} {t : Nat} (hp : zP1 mi pc = some (.if_icmp .ne off, a, b, c)) (hj : zjmp pc off = some t) (hx : wr x = x') (hy : wr y = y') : Z e d mi pc L (.int (iI y) :: .int (iI x) :: st) m = if x' = y' then Z e d mi (pc + 3) L st m else Z e d mi t L st m := Eq.trans (s_c_ne_t hp hj hx hy) fl_n
theorem s_z_ne_t {off : Int} {t : Nat} (hp : zP1 mi pc = some (.ifCond .ne off, a, b, c)) (hj : zjmp pc off = some t) (hx : wr x = x') : Z e d mi pc L (.int (iI x) :: st) m = if ¬ x' = 0 then Z e d mi t L st m else Z e d mi (pc + 3) L st m := by
  subst hx
  exact rv_ifc hp hj (decide_eq_decide.mpr (not_congr (iI_eq (y := 0))))
theorem s_z_ne_f {off : Int} {t : Nat} (hp : zP1 mi pc = some (.ifCond .ne off, a, b, c)) (hj : zjmp pc off = some t) (hx : wr x = x') : Z e d mi pc L (.int (iI x) :: st) m = if x' = 0 then Z e d mi (pc + 3) L st m else Z e d mi t L st m := Eq.trans (s_z_ne_t hp hj hx) fl_n
theorem s_c_lt_t {off : Int} {t : Nat} (hp : zP1 mi pc = some (.if_icmp .lt off, a, b, c)) (hj : zjmp pc off = some t) (hx : wr x = x') (hy : wr y = y') : Z e d mi pc L (.int (iI y) :: .int (iI x) :: st) m = if x' < y' then Z e d mi t L st m else Z e d mi (pc + 3) L st m := by
  subst hx hy
  exact rv_icmp hp hj (decide_eq_decide.mpr iI_lt)
theorem s_c_lt_f {off : Int} {t : Nat} (hp : zP1 mi pc = some (.if_icmp .lt off, a, b, c)) (hj : zjmp pc off = some t) (hx : wr x = x') (hy : wr y = y') : Z e d mi pc L (.int (iI y) :: .int (iI x) :: st) m = if y' ≤ x' then Z e d mi (pc + 3) L st m else Z e d mi t L st m := Eq.trans (s_c_lt_t hp hj hx hy) fl_lt
theorem s_z_lt_t {off : Int} {t : Nat} (hp : zP1 mi pc = some (.ifCond .lt off, a, b, c)) (hj : zjmp pc off = some t) (hx : wr x = x') : Z e d mi pc L (.int (iI x) :: st) m = if x' < 0 then Z e d mi t L st m else Z e d mi (pc + 3) L st m := by
  subst hx
  exact rv_ifc hp hj (decide_eq_decide.mpr (iI_lt (y := 0)))
theorem s_z_lt_f {off : Int} {t : Nat} (hp : zP1 mi pc = some (.ifCond .lt off, a, b, c)) (hj : zjmp pc off = some t) (hx : wr x = x') : Z e d mi pc L (.int (iI x) :: st) m = if 0 ≤ x' then Z e d mi (pc + 3) L st m else Z e d mi t L st m := Eq.trans (s_z_lt_t hp hj hx) fl_lt
theorem s_c_ge_t {off : Int} {t : Nat} (hp : zP1 mi pc = some (.if_icmp .ge off, a, b, c)) (hj : zjmp pc off = some t) (hx : wr x = x') (hy : wr y = y') : Z e d mi pc L (.int (iI y) :: .int (iI x) :: st) m = if y' ≤ x' then Z e d mi t L st m else Z e d mi (pc + 3) L st m := by
  subst hx hy
  exact rv_icmp hp hj (decide_eq_decide.mpr iI_le)
theorem s_c_ge_f {off : Int} {t : Nat} (hp : zP1 mi pc = some (.if_icmp .ge off, a, b, c)) (hj : zjmp pc off = some t) (hx : wr x = x') (hy : wr y = y') : Z e d mi pc L (.int (iI y) :: .int (iI x) :: st) m = if x' < y' then Z e d mi (pc + 3) L st m else Z e d mi t L st m := Eq.trans (s_c_ge_t hp hj hx hy) fl_le
theorem s_z_ge_t {off : Int} {t : Nat} (hp : zP1 mi pc = some (.ifCond .ge off, a, b, c)) (hj : zjmp pc off = some t) (hx : wr x = x') : Z e d mi pc L (.int (iI x) :: st) m = if 0 ≤ x' then Z e d mi t L st m else Z e d mi (pc + 3) L st m := by
  subst hx
  exact rv_ifc hp hj (decide_eq_decide.mpr (iI_le (x := 0)))
theorem s_z_ge_f {off : Int} {t : Nat} (hp : zP1 mi pc = some (.ifCond .ge off, a, b, c)) (hj : zjmp pc off = some t) (hx : wr x = x') : Z e d mi pc L (.int (iI x) :: st) m = if x' < 0 then Z e d mi (pc + 3) L st m else Z e d mi t L st m := Eq.trans (s_z_ge_t hp hj hx) fl_le
theorem s_c_gt_t {off : Int} {t : Nat} (hp : zP1 mi pc = some (.if_icmp .gt off, a, b, c)) (hj : zjmp pc off = some t) (hx : wr x = x') (hy : wr y = y') : Z e d mi pc L (.int (iI y) :: .int (iI x) :: st) m = if y' < x' then Z e d mi t L st m else Z e d mi (pc + 3) L st m := by
  subst hx hy
  exact rv_icmp hp hj (decide_eq_decide.mpr iI_lt)
theorem s_c_gt_f {off : Int} {t : Nat} (hp : zP1 mi pc = some (.if_icmp .gt off, a, b, c)) (hj : zjmp pc off = some t) (hx : wr x = x') (hy : wr y = y') : Z e d mi pc L (.int (iI y) :: .int (iI x) :: st) m = if x' ≤ y' then Z e d mi (pc + 3) L st m else Z e d mi t L st m := Eq.trans (s_c_gt_t hp hj hx hy) fl_lt
theorem s_z_gt_t {off : Int} {t : Nat} (hp : zP1 mi pc = some (.ifCond .gt off, a, b, c)) (hj : zjmp pc off = some t) (hx : wr x = x') : Z e d mi pc L (.int (iI x) :: st) m = if 0 < x' then Z e d mi t L st m else Z e d mi (pc + 3) L st m := by
  subst hx
  exact rv_ifc hp hj (decide_eq_decide.mpr (iI_lt (x := 0)))
theorem s_z_gt_f {off : Int} {t : Nat} (hp : zP1 mi pc = some (.ifCond .gt off, a, b, c)) (hj : zjmp pc off = some t) (hx : wr x = x') : Z e d mi pc L (.int (iI x) :: st) m = if x' ≤ 0 then Z e d mi (pc + 3) L st m else Z e d mi t L st m := Eq.trans (s_z_gt_t hp hj hx) fl_lt
theorem s_c_le_t {off : Int} {t : Nat} (hp : zP1 mi pc = some (.if_icmp .le off, a, b, c)) (hj : zjmp pc off = some t) (hx : wr x = x') (hy : wr y = y') : Z e d mi pc L (.int (iI y) :: .int (iI x) :: st) m = if x' ≤ y' then Z e d mi t L st m else Z e d mi (pc + 3) L st m := by
  subst hx hy
  exact rv_icmp hp hj (decide_eq_decide.mpr iI_le)
theorem s_c_le_f {off : Int} {t : Nat} (hp : zP1 mi pc = some (.if_icmp .le off, a, b, c)) (hj : zjmp pc off = some t) (hx : wr x = x') (hy : wr y = y') : Z e d mi pc L (.int (iI y) :: .int (iI x) :: st) m = if y' < x' then Z e d mi (pc + 3) L st m else Z e d mi t L st m := Eq.trans (s_c_le_t hp hj hx hy) fl_le
theorem s_z_le_t {off : Int} {t : Nat} (hp : zP1 mi pc = some (.ifCond .le off, a, b, c)) (hj : zjmp pc off = some t) (hx : wr x = x') : Z e d mi pc L (.int (iI x) :: st) m = if x' ≤ 0 then Z e d mi t L st m else Z e d mi (pc + 3) L st m := by
  subst hx
  exact rv_ifc hp hj (decide_eq_decide.mpr (iI_le (y := 0)))
theorem s_z_le_f {off : Int} {t : Nat} (hp : zP1 mi pc = some (.ifCond .le off, a, b, c)) (hj : zjmp pc off = some t) (hx : wr x = x') : Z e d mi pc L (.int (iI x) :: st) m = if 0 < x' then Z e d mi (pc + 3) L st m else Z e d mi t L st m := Eq.trans (s_z_le_t hp hj hx) fl_le
theorem wr_b {p : Prop} [Decidable p] : wr (if p then 1 else 0) = if p then 1 else 0 := by split <;> rfl
theorem b_ne {p : Prop} [Decidable p] : (¬ (if p then (1 : Int) else 0) = 0) = p := by by_cases h : p <;> simp [h]
theorem s_bne_t {p : Prop} [Decidable p] {off : Int} {t : Nat} (hp : zP1 mi pc = some (.ifCond .ne off, a, b, c)) (hj : zjmp pc off = some t) : Z e d mi pc L (.int (iI (if p then 1 else 0)) :: st) m = if p then Z e d mi t L st m else Z e d mi (pc + 3) L st m := by
  rw [s_z_ne_t hp hj wr_b]
  by_cases h : p <;> simp [h]
theorem s_bne_f {p : Prop} [Decidable p] {off : Int} {t : Nat} (hp : zP1 mi pc = some (.ifCond .ne off, a, b, c)) (hj : zjmp pc off = some t) : Z e d mi pc L (.int (iI (if p then 1 else 0)) :: st) m = if ¬ p then Z e d mi (pc + 3) L st m else Z e d mi t L st m := Eq.trans (s_bne_t hp hj) fl_n.symm
theorem s_beq_f {p : Prop} [Decidable p] {off : Int} {t : Nat} (hp : zP1 mi pc = some (.ifCond .eq off, a, b, c)) (hj : zjmp pc off = some t) : Z e d mi pc L (.int (iI (if p then 1 else 0)) :: st) m = if p then Z e d mi (pc + 3) L st m else Z e d mi t L st m := by
  rw [s_z_eq_t hp hj wr_b]
  by_cases h : p <;> simp [h]
theorem s_beq_t {p : Prop} [Decidable p] {off : Int} {t : Nat} (hp : zP1 mi pc = some (.ifCond .eq off, a, b, c)) (hj : zjmp pc off = some t) : Z e d mi pc L (.int (iI (if p then 1 else 0)) :: st) m = if ¬ p then Z e d mi t L st m else Z e d mi (pc + 3) L st m := Eq.trans (s_beq_f hp hj) fl_n.symm
theorem s_goto {off : Int} {t : Nat} (hp : zP1 mi pc = some (.goto off, a, b, c)) (hj : zjmp pc off = some t) : Z e d mi pc L st m = Z e d mi t L st m := rv_goto hp hj
theorem s_get (hp : zP1 mi pc = some (.getfield i', a, b, c)) (hs : zshape[k]? = some (1, a, n, tm)) (ha : a < 40) (hb : tm[b]? = some none) : Z e d mi pc L (.ref k :: st) m = Z e d mi (pc + 3) L (.int (iI (m k b)) :: st) m := by
  unfold Z
  rw [rv_getf hp ha, m_fl hs, hb]
  rfl
theorem s_getr (hp : zP1 mi pc = some (.getfield i', a, b, c)) (hs : zshape[k]? = some (1, a, n, tm)) (ha : a < 40) (hb : tm[b]? = some (some v)) : Z e d mi pc L (.ref k :: st) m = Z e d mi (pc + 3) L (v :: st) m := by
  unfold Z
  rw [rv_getf hp ha, m_fl hs, hb]
  rfl
theorem s_put (hp : zP1 mi pc = some (.putfield i', a, b, 0)) (hs : zshape[k]? = some (1, a, n, tm)) (ha : a < 40) (hb : tm[b]? = some none) : Z e d mi pc L (.int (iI x) :: .ref k :: st) m = Z e d mi (pc + 3) L st (um m k b x) := by
  unfold Z
  rw [rv_putf hp, m_sf hs ha hb (by rfl)]
  rfl
theorem zf_b {p : Prop} [Decidable p] : zfits 1 (.int (iI (if p then 1 else 0))) = true := by
  by_cases h : p <;> simp only [h, if_true, if_false] <;> rfl
theorem s_putb {p : Prop} [Decidable p] (hp : zP1 mi pc = some (.putfield i', a, b, 1)) (hs : zshape[k]? = some (1, a, n, tm)) (ha : a < 40) (hb : tm[b]? = some none) : Z e d mi pc L (.int (iI (if p then 1 else 0)) :: .ref k :: st) m = Z e d mi (pc + 3) L st (um m k b (if p then 1 else 0)) := by
  unfold Z
  rw [rv_putf hp, m_sf hs ha hb zf_b]
  rfl
theorem s_putk (hp : zP1 mi pc = some (.putfield i', a, b, 1)) (hf : zfits 1 (.int (iI x)) = true) (hs : zshape[k]? = some (1, a, n, tm)) (ha : a < 40) (hb : tm[b]? = some none) : Z e d mi pc L (.int (iI x) :: .ref k :: st) m = Z e d mi (pc + 3) L st (um m k b x) := by
  unfold Z
  rw [rv_putf hp, m_sf hs ha hb hf]
  rfl
theorem s_get3 (hp : zP1 mi pc = some (.getfield i', a, b, c)) (hs : zshape[k]? = some (3, a, n, tm)) (ha : a < 40) (hb : tm[b]? = some none) (h8 : ¬ b = 8) : Z e d mi pc L (.ref k :: st) m = Z e d mi (pc + 3) L (.int (iI (m k b)) :: st) m := by
  unfold Z
  rw [rv_getf hp ha, m_fl3 hs h8, hb]
  rfl
theorem s_getr3 (hp : zP1 mi pc = some (.getfield i', a, b, c)) (hs : zshape[k]? = some (3, a, n, tm)) (ha : a < 40) (hb : tm[b]? = some (some v)) (h8 : ¬ b = 8) : Z e d mi pc L (.ref k :: st) m = Z e d mi (pc + 3) L (v :: st) m := by
  unfold Z
  rw [rv_getf hp ha, m_fl3 hs h8, hb]
  rfl
theorem s_put3 (hp : zP1 mi pc = some (.putfield i', a, b, 0)) (hs : zshape[k]? = some (3, a, n, tm)) (ha : a < 40) (hb : tm[b]? = some none) (h8 : ¬ b = 8) : Z e d mi pc L (.int (iI x) :: .ref k :: st) m = Z e d mi (pc + 3) L st (um m k b x) := by
  unfold Z
  rw [rv_putf hp, m_sf3 hs ha hb h8 (by rfl)]
  rfl
/-- the word at hand -/
theorem s_getw (hp : zP1 mi pc = some (.getfield i', 4, 8, c)) : Z e d mi pc L (.ref 179 :: st) m = Z e d mi (pc + 3) L (zwr (m 179 8) :: st) m := by
  unfold Z
  rw [rv_getf hp (by decide), m_fl8 hs_179 rfl]
  rfl
theorem s_putw (hp : zP1 mi pc = some (.putfield i', 4, 8, 2)) (hx : 0 ≤ x) : Z e d mi pc L (.ref (10000 + x.toNat) :: .ref 179 :: st) m = Z e d mi (pc + 3) L st (um m 179 8 x) := by
  unfold Z
  rw [rv_putf hp, m_sf8 hs_179 (by decide) rfl hx rfl]
  rfl
theorem s_gets (hp : zP1 mi pc = some (.getstatic i', a, b, c)) (hv : (zE0 e.1 e.2).1 a = some v) : Z e d mi pc L st m = Z e d mi (pc + 3) L (v :: st) m := by
  unfold Z
  rw [rv_gets hp, hv]
  rfl
theorem s_ald (n' : Int) (hp : zP1 mi pc = some (.iaload, a, b, c)) (hs : zshape[k]? = some (0, 0, n, tm)) (hn : (n : Int) = n') (hk : k < 10000) : Z e d mi pc L (.int (iI x) :: .ref k :: st) m = ck (0 ≤ wr x ∧ wr x < n') (Z e d mi (pc + 1) L (.int (iI (m k (wr x))) :: st) m) := by
  subst hn
  unfold Z ck
  rw [rv_ald (Or.inl ⟨rfl, rfl⟩) hp, m_gi hk hs]
  split <;> rfl
theorem s_aldc (hp : zP1 mi pc = some (.iaload, a, b, c)) (hs : zshape[k]? = some (0, 0, n, tm)) (hk : k < 10000) (hx : wr x = x) (hb : 0 ≤ x ∧ x < n) : Z e d mi pc L (.int (iI x) :: .ref k :: st) m = Z e d mi (pc + 1) L (.int (iI (m k x)) :: st) m := by
  rw [s_ald n hp hs rfl hk, hx, ck_t hb]
theorem s_bld (n' : Int) (hp : zP1 mi pc = some (.baload, a, b, c)) (hs : zshape[k]? = some (0, 1, n, tm)) (hn : (n : Int) = n') (hk : k < 10000) : Z e d mi pc L (.int (iI x) :: .ref k :: st) m = ck (0 ≤ wr x ∧ wr x < n') (Z e d mi (pc + 1) L (.int (iI (m k (wr x))) :: st) m) := by
  subst hn
  unfold Z ck
  rw [rv_ald (Or.inr ⟨rfl, rfl⟩) hp, m_gi hk hs]
  split <;> rfl
theorem s_ast (n' : Int) (hp : zP1 mi pc = some (.iastore, a, b, c)) (hs : zshape[k]? = some (0, 0, n, tm)) (hn : (n : Int) = n') : Z e d mi pc L (.int (iI y) :: .int (iI x) :: .ref k :: st) m = ck (0 ≤ wr x ∧ wr x < n') (Z e d mi (pc + 1) L st (um m k (wr x) y)) := by
  subst hn
  unfold Z ck
  rw [rv_ast (Or.inl ⟨rfl, rfl⟩) hp, m_si hs]
  split <;> rfl
theorem s_astc (hp : zP1 mi pc = some (.iastore, a, b, c)) (hs : zshape[k]? = some (0, 0, n, tm)) (hx : wr x = x) (hb : 0 ≤ x ∧ x < n) : Z e d mi pc L (.int (iI y) :: .int (iI x) :: .ref k :: st) m = Z e d mi (pc + 1) L st (um m k x y) := by
  rw [s_ast n hp hs rfl, hx, ck_t hb]
theorem s_bst (n' : Int) (hp : zP1 mi pc = some (.bastore, a, b, c)) (hs : zshape[k]? = some (0, 1, n, tm)) (hn : (n : Int) = n') : Z e d mi pc L (.int (iI y) :: .int (iI x) :: .ref k :: st) m = ck (0 ≤ wr x ∧ wr x < n') (Z e d mi (pc + 1) L st (um m k (wr x) (j8 y))) := by
  subst hn
  unfold Z ck
  rw [rv_ast (Or.inr ⟨rfl, rfl⟩) hp, m_sib hs]
  split <;> rfl
theorem s_len (n' : Int) (hp : zP1 mi pc = some (.arraylength, a, b, c)) (hs : zshape[k]? = some (0, 0, n, tm)) (hn : (n : Int) = n') (hk : k < 10000) : Z e d mi pc L (.ref k :: st) m = Z e d mi (pc + 1) L (.int (iI n') :: st) m := by
  subst hn
  unfold Z
  rw [rv_alen hp, m_ln hk (by decide) hs]
  rfl
theorem s_lenr (n' : Int) (hp : zP1 mi pc = some (.arraylength, a, b, c)) (hs : zshape[k]? = some (1, i', n, tm)) (hn : (tm.length : Int) = n') (hk : k < 10000) (hc : 50 ≤ i' ∧ i' ≤ 53) : Z e d mi pc L (.ref k :: st) m = Z e d mi (pc + 1) L (.int (iI n') :: st) m := by
  subst hn
  unfold Z
  rw [rv_alen hp, m_lnr hs hk hc]
  rfl
/-- a row of an array of references: f says which -/
theorem s_aald {f : Int → Nat} (n' : Int) (hp : zP1 mi pc = some (.aaload, a, b, c)) (hs : zshape[k]? = some (1, i', n, tm)) (hn : (tm.length : Int) = n') (hc : 50 ≤ i' ∧ i' ≤ 53) (hf : ∀ j : Int, 0 ≤ j ∧ j < n' → tm[j.toNat]? = some (some (.ref (f j)))) : Z e d mi pc L (.int (iI x) :: .ref k :: st) m = ck (0 ≤ wr x ∧ wr x < n') (Z e d mi (pc + 1) L (.ref (f (wr x)) :: st) m) := by
  subst hn
  unfold Z ck
  rw [rv_aald hp]
  by_cases h : 0 ≤ wr x ∧ wr x < tm.length
  · rw [if_pos h, m_gr hs hc h.1 h.2 (hf _ h)]
    rfl
  · rw [if_neg h, m_gr0 hs h]
    rfl
theorem s_reti {q1 : MethodName} {bt : ByteArray} {nL : Nat} (hp : zP1 mi pc = some (.ireturn, a, b, c)) (hm : zM1 mi = some (q1, bt, nL, some .int)) : Z e d mi pc L [.int (iI x)] m = ri x m := rv_reti hp hm
theorem nb_b {p : Prop} [Decidable p] : narrow .boolean (.int (iI (if p then 1 else 0))) = .int (iI (if p then 1 else 0)) := by
  by_cases h : p <;> simp only [h, if_true, if_false] <;> rfl
theorem s_retb {p : Prop} [Decidable p] {q1 : MethodName} {bt : ByteArray} {nL : Nat} (hp : zP1 mi pc = some (.ireturn, a, b, c)) (hm : zM1 mi = some (q1, bt, nL, some .boolean)) : Z e d mi pc L [.int (iI (if p then 1 else 0))] m = ri (if p then 1 else 0) m := Eq.trans (rv_rets hp hm) (if_pos nb_b)
theorem s_retk {q1 : MethodName} {bt : ByteArray} {nL : Nat} (hx : narrow .boolean (.int (iI x)) = .int (iI x)) (hp : zP1 mi pc = some (.ireturn, a, b, c)) (hm : zM1 mi = some (q1, bt, nL, some .boolean)) : Z e d mi pc L [.int (iI x)] m = ri x m := Eq.trans (rv_rets hp hm) (if_pos hx)
abbrev nbp (x : Int) : Prop := narrow .boolean (.int (iI x)) = .int (iI x)
theorem nbp_of (h : wr x = 0 ∨ wr x = 1) : nbp x := by
  unfold nbp
  rcases h with h | h
  · rw [← iI_wr, h]; rfl
  · rw [← iI_wr, h]; rfl
theorem s_retx {q1 : MethodName} {bt : ByteArray} {nL : Nat} (hp : zP1 mi pc = some (.ireturn, a, b, c)) (hm : zM1 mi = some (q1, bt, nL, some .boolean)) : Z e d mi pc L [.int (iI x)] m = ck (nbp x) (ri x m) := rv_rets hp hm
theorem s_retv {q1 : MethodName} {bt : ByteArray} {nL : Nat} (hp : zP1 mi pc = some (.return_, a, b, c)) (hm : zM1 mi = some (q1, bt, nL, none)) : Z e d mi pc L [] m = rn m := rv_retv hp hm
theorem s_reta {q1 : MethodName} {bt : ByteArray} {nL : Nat} {ty : FieldType} (hp : zP1 mi pc = some (.areturn, a, b, c)) (hm : zM1 mi = some (q1, bt, nL, some ty)) (ht : ty.isReference = true) : Z e d mi pc L [.ref k] m = rr k m := rv_reta hp hm ht
theorem s_cs0 {Lc : List Value} {q1 : MethodName} {bt : ByteArray} {nL : Nat} {ret : Option FieldType} (hp : zP1 mi pc = some (.invokestatic i', a, 0, c)) (hk : a < 9000) (hm : zM1 a = some (q1, bt, nL, ret)) (hl : (zargs []).length ≤ nL ∧ zcs rest ≤ 8) (he : zent nL [] = Lc) : Z e (d + 1) mi pc L (rest) m = (Z e d a 0 Lc [] m).bind (ZK e (d + 1) mi (pc + 3) L rest m) := by
  subst he
  exact rv_calls (as := []) hp hk hm rfl hl
theorem s_cv0 {Lc : List Value} {q1 : MethodName} {bt : ByteArray} {nL : Nat} {ret : Option FieldType} (hp : zP1 mi pc = some (.invokevirtual i', a, 0, c)) (hk : a < 9000) (hc : ¬ c = 41) (hm : zM1 a = some (q1, bt, nL, ret)) (hl : (zargs [.ref k]).length ≤ nL ∧ zcs rest ≤ 8) (he : zent nL [.ref k] = Lc) (hr : zrc (Jvm.Pilot.CPeaceRingLaw_law_r3750_532f90.hp m) k c = true) : Z e (d + 1) mi pc L (.ref k :: rest) m = (Z e d a 0 Lc [] m).bind (ZK e (d + 1) mi (pc + 3) L rest m) := by
  subst he
  have h1 := rv_callv (E := zE0 e.1 e.2) (d := d) (L := L) (h := Jvm.Pilot.CPeaceRingLaw_law_r3750_532f90.hp m) (k := k) (as := []) (rest := rest) hp hk hc hm rfl hl
  rw [if_pos hr] at h1
  exact h1
theorem s_cs1 {v1 : Value} {Lc : List Value} {q1 : MethodName} {bt : ByteArray} {nL : Nat} {ret : Option FieldType} (hp : zP1 mi pc = some (.invokestatic i', a, 1, c)) (hk : a < 9000) (hm : zM1 a = some (q1, bt, nL, ret)) (hl : (zargs [v1]).length ≤ nL ∧ zcs rest ≤ 8) (he : zent nL [v1] = Lc) : Z e (d + 1) mi pc L (v1 :: rest) m = (Z e d a 0 Lc [] m).bind (ZK e (d + 1) mi (pc + 3) L rest m) := by
  subst he
  exact rv_calls (as := [v1]) hp hk hm rfl hl
theorem s_cv1 {v1 : Value} {Lc : List Value} {q1 : MethodName} {bt : ByteArray} {nL : Nat} {ret : Option FieldType} (hp : zP1 mi pc = some (.invokevirtual i', a, 1, c)) (hk : a < 9000) (hc : ¬ c = 41) (hm : zM1 a = some (q1, bt, nL, ret)) (hl : (zargs [.ref k, v1]).length ≤ nL ∧ zcs rest ≤ 8) (he : zent nL [.ref k, v1] = Lc) (hr : zrc (Jvm.Pilot.CPeaceRingLaw_law_r3750_532f90.hp m) k c = true) : Z e (d + 1) mi pc L (v1 :: .ref k :: rest) m = (Z e d a 0 Lc [] m).bind (ZK e (d + 1) mi (pc + 3) L rest m) := by
  subst he
  have h1 := rv_callv (E := zE0 e.1 e.2) (d := d) (L := L) (h := Jvm.Pilot.CPeaceRingLaw_law_r3750_532f90.hp m) (k := k) (as := [v1]) (rest := rest) hp hk hc hm rfl hl
  rw [if_pos hr] at h1
  exact h1
theorem s_cs2 {v1 : Value} {v2 : Value} {Lc : List Value} {q1 : MethodName} {bt : ByteArray} {nL : Nat} {ret : Option FieldType} (hp : zP1 mi pc = some (.invokestatic i', a, 2, c)) (hk : a < 9000) (hm : zM1 a = some (q1, bt, nL, ret)) (hl : (zargs [v1, v2]).length ≤ nL ∧ zcs rest ≤ 8) (he : zent nL [v1, v2] = Lc) : Z e (d + 1) mi pc L (v2 :: v1 :: rest) m = (Z e d a 0 Lc [] m).bind (ZK e (d + 1) mi (pc + 3) L rest m) := by
  subst he
  exact rv_calls (as := [v1, v2]) hp hk hm rfl hl
theorem s_cv2 {v1 : Value} {v2 : Value} {Lc : List Value} {q1 : MethodName} {bt : ByteArray} {nL : Nat} {ret : Option FieldType} (hp : zP1 mi pc = some (.invokevirtual i', a, 2, c)) (hk : a < 9000) (hc : ¬ c = 41) (hm : zM1 a = some (q1, bt, nL, ret)) (hl : (zargs [.ref k, v1, v2]).length ≤ nL ∧ zcs rest ≤ 8) (he : zent nL [.ref k, v1, v2] = Lc) (hr : zrc (Jvm.Pilot.CPeaceRingLaw_law_r3750_532f90.hp m) k c = true) : Z e (d + 1) mi pc L (v2 :: v1 :: .ref k :: rest) m = (Z e d a 0 Lc [] m).bind (ZK e (d + 1) mi (pc + 3) L rest m) := by
  subst he
  have h1 := rv_callv (E := zE0 e.1 e.2) (d := d) (L := L) (h := Jvm.Pilot.CPeaceRingLaw_law_r3750_532f90.hp m) (k := k) (as := [v1, v2]) (rest := rest) hp hk hc hm rfl hl
  rw [if_pos hr] at h1
  exact h1
theorem s_cs3 {v1 : Value} {v2 : Value} {v3 : Value} {Lc : List Value} {q1 : MethodName} {bt : ByteArray} {nL : Nat} {ret : Option FieldType} (hp : zP1 mi pc = some (.invokestatic i', a, 3, c)) (hk : a < 9000) (hm : zM1 a = some (q1, bt, nL, ret)) (hl : (zargs [v1, v2, v3]).length ≤ nL ∧ zcs rest ≤ 8) (he : zent nL [v1, v2, v3] = Lc) : Z e (d + 1) mi pc L (v3 :: v2 :: v1 :: rest) m = (Z e d a 0 Lc [] m).bind (ZK e (d + 1) mi (pc + 3) L rest m) := by
  subst he
  exact rv_calls (as := [v1, v2, v3]) hp hk hm rfl hl
theorem s_cv3 {v1 : Value} {v2 : Value} {v3 : Value} {Lc : List Value} {q1 : MethodName} {bt : ByteArray} {nL : Nat} {ret : Option FieldType} (hp : zP1 mi pc = some (.invokevirtual i', a, 3, c)) (hk : a < 9000) (hc : ¬ c = 41) (hm : zM1 a = some (q1, bt, nL, ret)) (hl : (zargs [.ref k, v1, v2, v3]).length ≤ nL ∧ zcs rest ≤ 8) (he : zent nL [.ref k, v1, v2, v3] = Lc) (hr : zrc (Jvm.Pilot.CPeaceRingLaw_law_r3750_532f90.hp m) k c = true) : Z e (d + 1) mi pc L (v3 :: v2 :: v1 :: .ref k :: rest) m = (Z e d a 0 Lc [] m).bind (ZK e (d + 1) mi (pc + 3) L rest m) := by
  subst he
  have h1 := rv_callv (E := zE0 e.1 e.2) (d := d) (L := L) (h := Jvm.Pilot.CPeaceRingLaw_law_r3750_532f90.hp m) (k := k) (as := [v1, v2, v3]) (rest := rest) hp hk hc hm rfl hl
  rw [if_pos hr] at h1
  exact h1
theorem s_cs4 {v1 : Value} {v2 : Value} {v3 : Value} {v4 : Value} {Lc : List Value} {q1 : MethodName} {bt : ByteArray} {nL : Nat} {ret : Option FieldType} (hp : zP1 mi pc = some (.invokestatic i', a, 4, c)) (hk : a < 9000) (hm : zM1 a = some (q1, bt, nL, ret)) (hl : (zargs [v1, v2, v3, v4]).length ≤ nL ∧ zcs rest ≤ 8) (he : zent nL [v1, v2, v3, v4] = Lc) : Z e (d + 1) mi pc L (v4 :: v3 :: v2 :: v1 :: rest) m = (Z e d a 0 Lc [] m).bind (ZK e (d + 1) mi (pc + 3) L rest m) := by
  subst he
  exact rv_calls (as := [v1, v2, v3, v4]) hp hk hm rfl hl
theorem s_cv4 {v1 : Value} {v2 : Value} {v3 : Value} {v4 : Value} {Lc : List Value} {q1 : MethodName} {bt : ByteArray} {nL : Nat} {ret : Option FieldType} (hp : zP1 mi pc = some (.invokevirtual i', a, 4, c)) (hk : a < 9000) (hc : ¬ c = 41) (hm : zM1 a = some (q1, bt, nL, ret)) (hl : (zargs [.ref k, v1, v2, v3, v4]).length ≤ nL ∧ zcs rest ≤ 8) (he : zent nL [.ref k, v1, v2, v3, v4] = Lc) (hr : zrc (Jvm.Pilot.CPeaceRingLaw_law_r3750_532f90.hp m) k c = true) : Z e (d + 1) mi pc L (v4 :: v3 :: v2 :: v1 :: .ref k :: rest) m = (Z e d a 0 Lc [] m).bind (ZK e (d + 1) mi (pc + 3) L rest m) := by
  subst he
  have h1 := rv_callv (E := zE0 e.1 e.2) (d := d) (L := L) (h := Jvm.Pilot.CPeaceRingLaw_law_r3750_532f90.hp m) (k := k) (as := [v1, v2, v3, v4]) (rest := rest) hp hk hc hm rfl hl
  rw [if_pos hr] at h1
  exact h1
theorem s_cs5 {v1 : Value} {v2 : Value} {v3 : Value} {v4 : Value} {v5 : Value} {Lc : List Value} {q1 : MethodName} {bt : ByteArray} {nL : Nat} {ret : Option FieldType} (hp : zP1 mi pc = some (.invokestatic i', a, 5, c)) (hk : a < 9000) (hm : zM1 a = some (q1, bt, nL, ret)) (hl : (zargs [v1, v2, v3, v4, v5]).length ≤ nL ∧ zcs rest ≤ 8) (he : zent nL [v1, v2, v3, v4, v5] = Lc) : Z e (d + 1) mi pc L (v5 :: v4 :: v3 :: v2 :: v1 :: rest) m = (Z e d a 0 Lc [] m).bind (ZK e (d + 1) mi (pc + 3) L rest m) := by
  subst he
  exact rv_calls (as := [v1, v2, v3, v4, v5]) hp hk hm rfl hl
theorem s_cv5 {v1 : Value} {v2 : Value} {v3 : Value} {v4 : Value} {v5 : Value} {Lc : List Value} {q1 : MethodName} {bt : ByteArray} {nL : Nat} {ret : Option FieldType} (hp : zP1 mi pc = some (.invokevirtual i', a, 5, c)) (hk : a < 9000) (hc : ¬ c = 41) (hm : zM1 a = some (q1, bt, nL, ret)) (hl : (zargs [.ref k, v1, v2, v3, v4, v5]).length ≤ nL ∧ zcs rest ≤ 8) (he : zent nL [.ref k, v1, v2, v3, v4, v5] = Lc) (hr : zrc (Jvm.Pilot.CPeaceRingLaw_law_r3750_532f90.hp m) k c = true) : Z e (d + 1) mi pc L (v5 :: v4 :: v3 :: v2 :: v1 :: .ref k :: rest) m = (Z e d a 0 Lc [] m).bind (ZK e (d + 1) mi (pc + 3) L rest m) := by
  subst he
  have h1 := rv_callv (E := zE0 e.1 e.2) (d := d) (L := L) (h := Jvm.Pilot.CPeaceRingLaw_law_r3750_532f90.hp m) (k := k) (as := [v1, v2, v3, v4, v5]) (rest := rest) hp hk hc hm rfl hl
  rw [if_pos hr] at h1
  exact h1
theorem s_cs6 {v1 : Value} {v2 : Value} {v3 : Value} {v4 : Value} {v5 : Value} {v6 : Value} {Lc : List Value} {q1 : MethodName} {bt : ByteArray} {nL : Nat} {ret : Option FieldType} (hp : zP1 mi pc = some (.invokestatic i', a, 6, c)) (hk : a < 9000) (hm : zM1 a = some (q1, bt, nL, ret)) (hl : (zargs [v1, v2, v3, v4, v5, v6]).length ≤ nL ∧ zcs rest ≤ 8) (he : zent nL [v1, v2, v3, v4, v5, v6] = Lc) : Z e (d + 1) mi pc L (v6 :: v5 :: v4 :: v3 :: v2 :: v1 :: rest) m = (Z e d a 0 Lc [] m).bind (ZK e (d + 1) mi (pc + 3) L rest m) := by
  subst he
  exact rv_calls (as := [v1, v2, v3, v4, v5, v6]) hp hk hm rfl hl
theorem s_cv6 {v1 : Value} {v2 : Value} {v3 : Value} {v4 : Value} {v5 : Value} {v6 : Value} {Lc : List Value} {q1 : MethodName} {bt : ByteArray} {nL : Nat} {ret : Option FieldType} (hp : zP1 mi pc = some (.invokevirtual i', a, 6, c)) (hk : a < 9000) (hc : ¬ c = 41) (hm : zM1 a = some (q1, bt, nL, ret)) (hl : (zargs [.ref k, v1, v2, v3, v4, v5, v6]).length ≤ nL ∧ zcs rest ≤ 8) (he : zent nL [.ref k, v1, v2, v3, v4, v5, v6] = Lc) (hr : zrc (Jvm.Pilot.CPeaceRingLaw_law_r3750_532f90.hp m) k c = true) : Z e (d + 1) mi pc L (v6 :: v5 :: v4 :: v3 :: v2 :: v1 :: .ref k :: rest) m = (Z e d a 0 Lc [] m).bind (ZK e (d + 1) mi (pc + 3) L rest m) := by
  subst he
  have h1 := rv_callv (E := zE0 e.1 e.2) (d := d) (L := L) (h := Jvm.Pilot.CPeaceRingLaw_law_r3750_532f90.hp m) (k := k) (as := [v1, v2, v3, v4, v5, v6]) (rest := rest) hp hk hc hm rfl hl
  rw [if_pos hr] at h1
  exact h1
end ZS
