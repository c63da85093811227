/-! What the law says, of the reference's numbers N alone. -/
noncomputable def cif {α : Type} (P : Prop) (a b : α) : α := @ite α P (Classical.propDecidable P) a b
theorem cif_t {α : Type} {P : Prop} {a b : α} (h : P) : cif P a b = a := if_pos h
theorem cif_f {α : Type} {P : Prop} {a b : α} (h : ¬ P) : cif P a b = b := if_neg h
theorem if_cif {α : Type} {P : Prop} [Decidable P] {a b : α} : (if P then a else b) = cif P a b := by
  by_cases h : P
  · rw [cif_t h, if_pos h]
  · rw [cif_f h, if_neg h]
theorem cif_cg {α : Type} {P Q : Prop} {a b : α} (h : P ↔ Q) : cif P a b = cif Q a b := by rw [propext h]
theorem bi_cif {P : Prop} : bi P = cif P 1 0 := rfl
noncomputable def wayS (N : Int → Int) (a : Int) : Int → Int := Classical.epsilon (fun w => isWay (wall N) a w)
def inFo (N : Int → Int) (o v h : Int) : Prop := (0 ≤ o ∧ v = o) ∨ (o < 0 ∧ inF N v h)
/-- the version of a charter in force -/
noncomputable def vOf (N : Int → Int) (o c h : Int) : Int := itr (fun v r => cif (N (266 + 44 * v + 0) = c ∧ inFo N o v h) v r) 0 (N 3).toNat (-1)
def lk (N : Int → Int) (v l : Int) : Int := N (266 + 44 * v + (4 + 4 * l))
def ln (N : Int → Int) (v l : Int) : Int := N (266 + 44 * v + (4 + 4 * l + 1))
/-- along the lines of one version -/
noncomputable def lnV {α : Type} (N : Int → Int) (g : Int → Int → α → α) (v : Int) (x : α) : α := cif (0 ≤ v) (itr (fun l y => g v l y) 0 (N (266 + 44 * v + 3)).toNat x) x
/-- along all lines in force -/
noncomputable def lnF {α : Type} (N : Int → Int) (o h : Int) (g : Int → Int → α → α) (x : α) : α := itr (fun c y => lnV N g (vOf N o c h) y) 0 3 x
noncomputable def mile (N : Int → Int) (o h : Int) : Int := lnF N o h (fun v l x => cif (lk N v l = 0) (ln N v l) x) 3
noncomputable def strt (N : Int → Int) (o h : Int) : Int := lnF N o h (fun v l x => cif (lk N v l = 1 ∨ lk N v l = 2) (lk N v l - 1) x) 0
noncomputable def fort (N : Int → Int) (o h : Int) : Int := lnF N o h (fun v l x => cif (lk N v l = 3) (ln N v l) x) 40
/-- a cell is within a stone (mi: the mile, st: 1 if straight) -/
def wi (N : Int → Int) (mi st c s : Int) : Prop := (st = 1 ∧ jfar (N (254 + 2 * s)) c ≤ mi) ∨ (¬ st = 1 ∧ ¬ wayS N (N (254 + 2 * s)) c = -3 ∧ wayS N (N (254 + 2 * s)) c ≤ mi)
noncomputable def abt (N : Int → Int) (mi st c : Int) : Int := itr (fun s b => cif (wi N mi st c s) (jor b (jshl 1 s)) b) 0 (N 2).toNat 0
noncomputable def most (N : Int → Int) (mi st c : Int) : Int := itr (fun s x => cif (wi N mi st c s) (max x (N (254 + 2 * s + 1))) x) 0 (N 2).toNat 0
noncomputable def deg (N : Int → Int) (mi st c : Int) : Int := cif (most N mi st c = 0) 0 (most N mi st c + (if N (10 + c) = 2 then 1 else if N (10 + c) = 3 then 3 else 0))
def ngt (h : Int) : Prop := 20 ≤ h % 24 ∨ h % 24 < 6
noncomputable def timS (N : Int → Int) (q : Int) : Int := itr (fun z n => n + bi ((N (794 + 6 * z + 0) = N (794 + 6 * q + 0) ∧ N (794 + 6 * z + 1) = N (794 + 6 * q + 1)) ∧ N (794 + 6 * z + 3) ≤ N (794 + 6 * q + 3))) 0 (N 4).toNat 0
def insd (N : Int → Int) (o q : Int) : Prop := 0 < most N (mile N o (N (794 + 6 * q + 3))) (strt N o (N (794 + 6 * q + 3))) (N (794 + 6 * q + 4))
/-- marks of a deed: inside, night, against -/
noncomputable def mrk (N : Int → Int) (o q i : Int) : Int := if i = 0 then bi (insd N o q) else if i = 1 then bi (ngt (N (794 + 6 * q + 3))) else bi (0 ≤ N (794 + 6 * q + 2))
noncomputable def fct (N : Int → Int) (o q g h : Int) : Int → Int := fun i => if i = 0 then h - N (794 + 6 * q + 3) else if i = 1 then timS N q else if i = 2 then g else if i < 6 ∧ 3 ≤ i then mrk N o q (i - 3) else 0
/-- a line's cond holds on the facts -/
def hol (N : Int → Int) (v l : Int) (f : Int → Int) : Prop := N (266 + 44 * v + (4 + 4 * l + 2)) = N (266 + 44 * v + (4 + 4 * l + 3)) ∨ ∃ g', evR f (cdR N v) (N (266 + 44 * v + (4 + 4 * l + 2))) (N (266 + 44 * v + (4 + 4 * l + 3))) ((fun _ => 0), 0) = some (g', 1) ∧ g' 0 = 1
def tells (N : Int → Int) (o q g h v l : Int) : Prop := (5 ≤ lk N v l ∧ ¬ jand (ln N v l) (jor (jshl 1 (N (794 + 6 * q + 1))) 64) = 0) ∧ hol N v l (fct N o q g h)
/-- the line that tells of a deed where the degree is g; -1: none -/
noncomputable def lnO (N : Int → Int) (o q g h : Int) : Int := lnF N o h (fun v l x => cif (tells N o q g h v l) (100 * v + l) x) (-1)
def fails (N : Int → Int) (o q g h : Int) : Prop := 0 ≤ lnO N o q g h ∧ lk N (lnO N o q g h / 100) (lnO N o q g h % 100) = 6
/-- only what the law's own rows hang on -/
def nz (N : Int → Int) : Int → Int := fun i => if i = 2 ∨ i = 3 ∨ i = 4 ∨ (254 ≤ i ∧ i < 938) then N i else if 10 ≤ i ∧ i < 110 then (if N i = 1 then 1 else 0) else 0
def nw (N : Int → Int) : Int → Int := fun i => if i = 2 ∨ (254 ≤ i ∧ i < 266) then N i else if 10 ≤ i ∧ i < 110 then (if N i = 1 then 1 else 0) else 0
/-- the class's own rows -/
def LawC (m : zMm) (N : Int → Int) : Prop := (∀ s, 0 ≤ s → s < N 2 → isWay (wall N) (N (254 + 2 * s)) (m (196 + s.toNat))) ∧ (∀ q, 0 ≤ q → q < N 4 → m 204 q = timS N q ∧ (∀ i, 0 ≤ i → i < 3 → jand (jshr (m 205 q) i) 1 = mrk N (-1) q i))
def LawOK (m : zMm) : Prop := m 202 3 = -3 ∧ (m 202 2 = 1 ∨ (m 202 2 = 0 ∧ LawC m (nz (m 247))))
/-- the reference's own rows -/
def RefC (m : zMm) (N : Int → Int) : Prop := ∀ s, 0 ≤ s → s < N 2 → isWay (wall N) (N (254 + 2 * s)) (fun c => if m 254 (100 * s + c) = 1000 then -3 else m 254 (100 * s + c)) ∧ (∀ c, 0 ≤ c → c < 100 → ¬ m 254 (100 * s + c) = -3)
def RefOK (m : zMm) : Prop := m 246 13 = -1 ∧ m 246 14 = -1 ∧ (m 246 12 = 0 ∨ (m 246 12 = 1 ∧ RefC m (nw (m 247))))
def Inv (m : zMm) : Prop := Rng m ∧ Core m (m 247) ∧ Kept m ∧ LawOK m ∧ RefOK m ∧ beside m ∧ Tape m ∧ Rows m ∧ Host m
