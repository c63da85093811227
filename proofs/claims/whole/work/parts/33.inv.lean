/-! What holds between two calls. -/
/-- how many there are -/
def cNum (F : zMm) (N : Int → Int) : Prop := (F 1 0 = N 0 ∧ 0 ≤ N 0 ∧ N 0 ≤ 9999) ∧ (F 4 3 = N 1 ∧ 0 ≤ N 1 ∧ N 1 ≤ 16) ∧ (F 6 3 = N 2 ∧ 0 ≤ N 2 ∧ N 2 ≤ 6) ∧ (F 1 2 = N 3 ∧ 0 ≤ N 3 ∧ N 3 ≤ 12) ∧ (F 8 3 = N 4 ∧ 0 ≤ N 4 ∧ N 4 ≤ 24) ∧ (F 12 3 = N 5 ∧ 0 ≤ N 5 ∧ N 5 ≤ 16) ∧ (F 14 3 = N 6 ∧ 0 ≤ N 6 ∧ N 6 ≤ 8) ∧ (F 1 1 = N 7 ∧ 0 ≤ N 7 ∧ N 7 ≤ 8) ∧ (F 16 3 = N 8 ∧ 0 ≤ N 8 ∧ N 8 ≤ 16) ∧ F 10 3 = 5
def cGnd (F : zMm) (N : Int → Int) : Prop := ∀ c, 0 ≤ c → c < 100 → F 2 c = N (10 + c) ∧ 0 ≤ N (10 + c) ∧ N (10 + c) ≤ 3
/-- a person's row -/
def pRow (F : zMm) (N : Int → Int) (p : Int) : Prop := (∀ f, 0 ≤ f → f < 9 → F 5 (p * 18 + f) = N (110 + 9 * p + f)) ∧ (0 ≤ N (110 + 9 * p + 0) ∧ N (110 + 9 * p + 0) < 100) ∧ (1 ≤ N (110 + 9 * p + 1) ∧ N (110 + 9 * p + 1) ≤ 4) ∧ (0 ≤ N (110 + 9 * p + 2) ∧ N (110 + 9 * p + 2) ≤ 6) ∧ (0 ≤ N (110 + 9 * p + 3) ∧ N (110 + 9 * p + 3) ≤ 9999) ∧ (N (110 + 9 * p + 4) = -3 ∨ (0 ≤ N (110 + 9 * p + 4) ∧ N (110 + 9 * p + 4) < 100)) ∧ (N (110 + 9 * p + 7) = -3 ∨ (0 ≤ N (110 + 9 * p + 7) ∧ N (110 + 9 * p + 7) < 5)) ∧ (N (110 + 9 * p + 2) = 3 → 0 ≤ N (110 + 9 * p + 7))
def cPpl (F : zMm) (N : Int → Int) : Prop := ∀ p, 0 ≤ p → p < N 1 → pRow F N p
/-- what a person heard -/
def hRow (F : zMm) (N : Int → Int) (p : Int) : Prop := ∀ b, 0 ≤ b → b < 8 → F 5 (p * 18 + (10 + b)) = N (1106 + 8 * p + b) ∧ (N (1106 + 8 * p + b) = -3 ∨ (0 ≤ N (1106 + 8 * p + b) ∧ N (1106 + 8 * p + b) ≤ N 0)) ∧ (N 7 ≤ b → N (1106 + 8 * p + b) = -3)
def cHrd (F : zMm) (N : Int → Int) : Prop := ∀ p, 0 ≤ p → p < N 1 → hRow F N p
def cSto (F : zMm) (N : Int → Int) : Prop := ∀ s, 0 ≤ s → s < N 2 → (F 7 (s * 2 + 0) = N (254 + 2 * s) ∧ 0 ≤ N (254 + 2 * s) ∧ N (254 + 2 * s) < 100) ∧ (F 7 (s * 2 + 1) = N (254 + 2 * s + 1) ∧ 1 ≤ N (254 + 2 * s + 1) ∧ N (254 + 2 * s + 1) ≤ 9)
def dRow (F : zMm) (N : Int → Int) (q : Int) : Prop := (∀ f, 0 ≤ f → f < 6 → F 9 (q * 6 + f) = N (794 + 6 * q + f)) ∧ (0 ≤ N (794 + 6 * q + 0) ∧ N (794 + 6 * q + 0) < N 1) ∧ (0 ≤ N (794 + 6 * q + 1) ∧ N (794 + 6 * q + 1) ≤ 5) ∧ (-1 ≤ N (794 + 6 * q + 2) ∧ N (794 + 6 * q + 2) < N 1) ∧ (0 ≤ N (794 + 6 * q + 3) ∧ N (794 + 6 * q + 3) ≤ N 0) ∧ (0 ≤ N (794 + 6 * q + 4) ∧ N (794 + 6 * q + 4) < 100) ∧ (N (794 + 6 * q + 3) ≤ N (794 + 6 * q + 5) ∧ N (794 + 6 * q + 5) ≤ 9999)
def cDee (F : zMm) (N : Int → Int) : Prop := ∀ q, 0 ≤ q → q < N 4 → dRow F N q
def tRow (F : zMm) (N : Int → Int) (t : Int) : Prop := (∀ f, 0 ≤ f → f < 6 → F 13 (t * 7 + f) = N (938 + 7 * t + f)) ∧ (F 13 (t * 7 + 6) = 1 - N (938 + 7 * t + 6) ∧ 0 ≤ N (938 + 7 * t + 6) ∧ N (938 + 7 * t + 6) ≤ 1) ∧ (0 ≤ N (938 + 7 * t + 1) ∧ N (938 + 7 * t + 1) < N 1) ∧ (0 ≤ N (938 + 7 * t + 2) ∧ N (938 + 7 * t + 2) ≤ N 0) ∧ (0 ≤ N (938 + 7 * t + 3) ∧ N (938 + 7 * t + 3) < 100) ∧ (0 ≤ N (938 + 7 * t + 5) ∧ N (938 + 7 * t + 5) ≤ 1)
def cTak (F : zMm) (N : Int → Int) : Prop := ∀ t, 0 ≤ t → t < N 5 → tRow F N t
/-- whether a post is manned at a clock -/
def mann (a b h : Int) : Prop := if a ≤ b then a ≤ h ∧ h ≤ b else a ≤ h ∨ h ≤ b
def oRow (F : zMm) (N : Int → Int) (p : Int) : Prop := (F 15 (p * 3 + 0) = N (1050 + 4 * p) ∧ 0 ≤ N (1050 + 4 * p) ∧ N (1050 + 4 * p) < 100) ∧ (F 15 (p * 3 + 1) = N (1050 + 4 * p + 1) ∧ 0 ≤ N (1050 + 4 * p + 1) ∧ N (1050 + 4 * p + 1) ≤ 4) ∧ (0 ≤ N (1050 + 4 * p + 2) ∧ N (1050 + 4 * p + 2) < 24) ∧ (0 ≤ N (1050 + 4 * p + 3) ∧ N (1050 + 4 * p + 3) < 24) ∧ (0 ≤ F 15 (p * 3 + 2) ∧ F 15 (p * 3 + 2) < 16777216) ∧ (∀ h, 0 ≤ h → h < 24 → jand (jshr (F 15 (p * 3 + 2)) h) 1 = bi (mann (N (1050 + 4 * p + 2)) (N (1050 + 4 * p + 3)) h))
def cPos (F : zMm) (N : Int → Int) : Prop := ∀ p, 0 ≤ p → p < N 6 → oRow F N p
def cSig (F : zMm) (N : Int → Int) : Prop := ∀ s, 0 ≤ s → s < N 8 → (∀ f, 0 ≤ f → f < 3 → F 17 (s * 3 + f) = N (1234 + 3 * s + f)) ∧ (0 ≤ N (1234 + 3 * s + 0) ∧ N (1234 + 3 * s + 0) < 100) ∧ (0 ≤ N (1234 + 3 * s + 1) ∧ N (1234 + 3 * s + 1) ≤ 9999) ∧ (0 ≤ N (1234 + 3 * s + 2) ∧ N (1234 + 3 * s + 2) ≤ 4)
def cPor (F : zMm) (N : Int → Int) : Prop := ∀ p, 0 ≤ p → p < 5 → (∀ f, 0 ≤ f → f < 3 → F 11 (p * 3 + f) = N (1282 + 3 * p + f)) ∧ (1 ≤ N (1282 + 3 * p + 0) ∧ N (1282 + 3 * p + 0) ≤ 30) ∧ (1 ≤ N (1282 + 3 * p + 1) ∧ N (1282 + 3 * p + 1) ≤ 30) ∧ (0 ≤ N (1282 + 3 * p + 2) ∧ N (1282 + 3 * p + 2) ≤ 29)
/-- one place of a row -/
def up (g : Int → Int) (i x : Int) : Int → Int := fun j => if j = i then x else g j
/-- a code of the class on the values that wait (f: age, times, degree, inside, night, against) -/
def cst (a t g k c x : Int) : Int :=
  if jdiv c 1000 = 6 then jxor x 1 else if jdiv c 1000 = 7 then jand (jshr x 1) (if jand x 1 = 1 then -1 else -2) else if jdiv c 1000 = 8 then jor (jshr x 1) (jand x 1)
  else if 3 ≤ jdiv c 1000 then jor (jshl x 1) (jand (jshr k (jdiv c 1000 - 3)) 1)
  else jor (jshl x 1) (if jrem c 1000 < (if jdiv c 1000 = 0 then a else if jdiv c 1000 = 1 then t else g) then 1 else 0)
def evC (a t g k : Int) (C : Int → Int) (i j x : Int) : Int := itr (fun q y => cst a t g k (C q) y) i (j - i).toNat x
/-- a code of the reference on its pile -/
def rst (f : Int → Int) (c : Int) (s : (Int → Int) × Int) : Option ((Int → Int) × Int) :=
  if c < 4000 then (if (c < 3000 → 0 ≤ jdiv c 1000 ∧ jdiv c 1000 < 6) ∧ (¬ c < 3000 → c < 3003) ∧ 0 ≤ s.2 ∧ s.2 < 120 then some (up s.1 s.2 (if c < 3000 then (if jrem c 1000 < f (jdiv c 1000) then 1 else 0) else f (3 + c - 3000)), s.2 + 1) else none)
  else if c = 4000 then (if 1 ≤ s.2 ∧ s.2 ≤ 120 then some (up s.1 (s.2 - 1) (1 - s.1 (s.2 - 1)), s.2) else none)
  else (if 2 ≤ s.2 ∧ s.2 ≤ 120 then some (up s.1 (s.2 - 2) (if c = 4001 then jand (s.1 (s.2 - 2)) (s.1 (s.2 - 1)) else jor (s.1 (s.2 - 2)) (s.1 (s.2 - 1))), s.2 - 1) else none)
def evR (f : Int → Int) (R : Int → Int) (i j : Int) (s : (Int → Int) × Int) : Option ((Int → Int) × Int) := itr (fun q o => o.bind (fun s => rst f (R q) s)) i (j - i).toNat (some s)
/-- two rows of codes say the same of all facts -/
def sem (C : Int → Int) (i j : Int) (R : Int → Int) (i' j' : Int) : Prop := ∀ (f : Int → Int) (k : Int), (∀ q, 3 ≤ q → q < 6 → (f q = 0 ∨ f q = 1) ∧ jand (jshr k (q - 3)) 1 = f q) → (∀ q, -2147483648 ≤ f q ∧ f q < 2147483648) → ∃ b, (b = 0 ∨ b = 1) ∧ (∀ x, 0 ≤ x → x < 65536 → evC (f 0) (f 1) (f 2) k C i j x = 2 * x + b) ∧ (∀ g h, 0 ≤ h → h < 60 → ∃ g', evR f R i' j' (g, h) = some (g', h + 1) ∧ g' h = b ∧ (∀ q, q < h → g' q = g q))
/-- the codes of a version -/
def cdR (N : Int → Int) (v : Int) : Int → Int := fun k => if 0 ≤ k ∧ k < 120 then N (1297 + 120 * v + k) else 0
def lRow (F : zMm) (N : Int → Int) (v l : Int) : Prop := (F (18 + 6 * v.toNat + 1) l = N (266 + 44 * v + (4 + 4 * l)) ∧ 0 ≤ N (266 + 44 * v + (4 + 4 * l)) ∧ N (266 + 44 * v + (4 + 4 * l)) ≤ 6) ∧ (F (18 + 6 * v.toNat + 2) l = N (266 + 44 * v + (4 + 4 * l + 1)) ∧ 0 ≤ N (266 + 44 * v + (4 + 4 * l + 1)) ∧ N (266 + 44 * v + (4 + 4 * l + 1)) ≤ 999) ∧ (0 ≤ F (18 + 6 * v.toNat + 3) l ∧ F (18 + 6 * v.toNat + 4) l ≤ 100) ∧ (0 ≤ N (266 + 44 * v + (4 + 4 * l + 2)) ∧ N (266 + 44 * v + (4 + 4 * l + 3)) ≤ 120) ∧ ((F (18 + 6 * v.toNat + 3) l = F (18 + 6 * v.toNat + 4) l ∧ N (266 + 44 * v + (4 + 4 * l + 2)) = N (266 + 44 * v + (4 + 4 * l + 3))) ∨ (F (18 + 6 * v.toNat + 3) l < F (18 + 6 * v.toNat + 4) l ∧ N (266 + 44 * v + (4 + 4 * l + 2)) < N (266 + 44 * v + (4 + 4 * l + 3)) ∧ sem (F (18 + 6 * v.toNat + 5)) (F (18 + 6 * v.toNat + 3) l) (F (18 + 6 * v.toNat + 4) l) (cdR N v) (N (266 + 44 * v + (4 + 4 * l + 2))) (N (266 + 44 * v + (4 + 4 * l + 3)))))
def vRow (F : zMm) (N : Int → Int) (v : Int) : Prop := (F (18 + 6 * v.toNat) 0 = N (266 + 44 * v + 0) ∧ 0 ≤ N (266 + 44 * v + 0) ∧ N (266 + 44 * v + 0) ≤ 2) ∧ (F (18 + 6 * v.toNat) 1 = N (266 + 44 * v + 1) ∧ 0 ≤ N (266 + 44 * v + 1) ∧ N (266 + 44 * v + 1) ≤ N 0) ∧ (F (18 + 6 * v.toNat) 2 = N (266 + 44 * v + 2) ∧ (N (266 + 44 * v + 2) = -3 ∨ (N (266 + 44 * v + 1) ≤ N (266 + 44 * v + 2) ∧ N (266 + 44 * v + 2) ≤ N 0))) ∧ (F (18 + 6 * v.toNat) 3 = N (266 + 44 * v + 3) ∧ 0 ≤ N (266 + 44 * v + 3) ∧ N (266 + 44 * v + 3) ≤ 10) ∧ (∀ l, 0 ≤ l → l < N (266 + 44 * v + 3) → lRow F N v l)
def cVer (F : zMm) (N : Int → Int) : Prop := (∀ v, 0 ≤ v → v < N 3 → vRow F N v) ∧ (∀ v1 v2, 0 ≤ v1 → v1 < v2 → v2 < N 3 → N (266 + 44 * v1 + 0) = N (266 + 44 * v2 + 0) → ¬ N (266 + 44 * v1 + 2) = -3 ∧ N (266 + 44 * v1 + 2) ≤ N (266 + 44 * v2 + 1))
def Core (F : zMm) (N : Int → Int) : Prop := cNum F N ∧ cGnd F N ∧ cPpl F N ∧ cHrd F N ∧ cSto F N ∧ cDee F N ∧ cTak F N ∧ cPos F N ∧ cSig F N ∧ cPor F N ∧ cVer F N
/-- what was kept -/
def Kept (m : zMm) : Prop := m 0 9 = m 246 2 ∧ (m 246 2 = 0 ∨ (m 246 2 = 1 ∧ Core (fun k => m (k + 89)) (m 248)))
/-- neighbours: the four cells about a cell, -3 beyond the rim -/
def nbr (c s : Int) : Int := if s = 0 then (if 10 ≤ c then c - 10 else -3) else if s = 1 then (if 0 < c % 10 then c - 1 else -3) else if s = 2 then (if c % 10 < 9 then c + 1 else -3) else (if c + 10 < 100 then c + 10 else -3)
/-- w tells the fewest steps from a to each cell; -3: there is no way -/
def isWay (W : Int → Prop) (a : Int) (w : Int → Int) : Prop := (∀ c, 0 ≤ c → c < 100 → w c = -3 ∨ (0 ≤ w c ∧ w c < 100 ∧ ¬ W c)) ∧ (∀ c, 0 ≤ c → c < 100 → (w c = 0 ↔ c = a ∧ ¬ W a)) ∧ (∀ c s n, 0 ≤ c → c < 100 → 0 ≤ s → s < 4 → nbr c s = n → ¬ n = -3 → ¬ w c = -3 → ¬ W n → ¬ w n = -3 ∧ w n ≤ w c + 1) ∧ (∀ c, 0 ≤ c → c < 100 → 0 < w c → ∃ s, 0 ≤ s ∧ s < 4 ∧ ¬ nbr c s = -3 ∧ w (nbr c s) = w c - 1)
def wall (N : Int → Int) (c : Int) : Prop := N (10 + c) = 1
/-- a version in force at an hour -/
def inF (N : Int → Int) (v h : Int) : Prop := N (266 + 44 * v + 1) ≤ h ∧ (N (266 + 44 * v + 2) = -3 ∨ h < N (266 + 44 * v + 2))
def beside (m : zMm) : Prop := ∀ c s, 0 ≤ c → c < 100 → 0 ≤ s → s < 4 → m 192 (4 * c + s) = nbr c s
def Tape (m : zMm) : Prop := m 179 1 = m 246 4 ∧ 0 ≤ m 246 4 ∧ m 246 4 ≤ 300 ∧ (∀ i, 0 ≤ i → i < m 246 4 → m 180 i = j8 (m 249 i) ∧ 0 ≤ m 249 i ∧ m 249 i < 256)
def Rows (m : zMm) : Prop := (m 230 3 = m 246 7 ∧ 0 ≤ m 246 7 ∧ m 246 7 ≤ 60) ∧ ((m 226 8 = 0 ∧ m 246 8 = -1 ∧ m 246 7 = 0) ∨ (m 226 8 = 1 ∧ m 232 3 = m 246 8 ∧ m 246 7 ≤ m 246 8 ∧ m 246 8 ≤ 60)) ∧ (∀ i, 0 ≤ i → i < 2 * m 246 7 → m 231 i = m 250 i) ∧ (∀ i, 0 ≤ i → i < 2 * m 246 8 → m 233 i = m 251 i)
def Host (m : zMm) : Prop := (∀ s, 0 ≤ s → s < 4 → (m 235 s = m 261 s ∧ -1 ≤ m 261 s ∧ m 261 s ≤ 4) ∧ (m 236 s = m 262 s ∧ 0 ≤ m 262 s ∧ m 262 s ≤ 40 ∧ (m 261 s = -1 → m 262 s = 0)) ∧ (∀ i, 0 ≤ i → i < 40 → m (238 + s.toNat) i = m 263 (40 * s + i)) ∧ ((m 242 s = 2 ∧ m 264 s = 0) ∨ (m 242 s = 0 ∧ m 264 s = 1 ∧ m 243 s = m 265 s) ∨ (m 242 s = 1 ∧ m 264 s = 2 ∧ m 243 s = m 265 s ∧ m 244 s = m 266 s ∧ 0 ≤ m 265 s))) ∧ (m 234 8 = m 246 35 ∧ 0 ≤ m 246 35 ∧ m 246 35 ≤ 30) ∧ (∀ i, 0 ≤ i → i < m 246 35 → m 245 i = m 267 i)
