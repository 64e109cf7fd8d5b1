/-! PURE, part 7: what holds between calls, piece by piece (o: the object's number; v: the model's row) -/
def RLand (o : Nat) (z : zH) (v : Int → Int) : Prop := z o 0 = v 0 ∧ z o 1 = v 1 ∧ (∀ c, 0 ≤ c → c < 64 → z (o + 1) c = v (24 + c)) ∧ (∀ c, 0 ≤ c → c < 64 → z (o + 2) c = v (88 + c)) ∧ (∀ k, 0 ≤ k → k < 9 → z (o + 3) k = v (15 + k))
theorem RLand_R {z : zH} {v : Int → Int} (h : RLand 2 z v) : LandR z v := h
def PLand (o : Nat) (z : zH) (v : Int → Int) : Prop := RLand o z v ∧ LandI v
def PCraft (o : Nat) (z : zH) (v : Int → Int) : Prop := z o 0 = v 2 ∧ z o 1 = v 3 ∧ z o 2 = v 4 ∧ z o 3 = v 5 ∧ z o 4 = v 6 ∧ okC v (v 2, v 3, v 4, v 5) ∧ 0 ≤ v 6 ∧ v 6 ≤ 200
/-- rows of numbers: so many at most, so wide; where the model has their count and them -/
def RRows (o : Nat) (m w c b : Int) (z : zH) (v : Int → Int) : Prop := z o 0 = m ∧ z o 1 = w ∧ z o 3 = v c ∧ (0 ≤ v c ∧ v c ≤ m) ∧ ∀ k, 0 ≤ k → k < m * w → z (o + 1) k = v (b + k)
def PEnds (o : Nat) (z : zH) (v : Int → Int) : Prop := RRows o 8 5 7 152 z v ∧ ∀ e, 0 ≤ e → e < v 7 → (1 ≤ v (152 + 5 * e) ∧ v (152 + 5 * e) ≤ 5) ∧ (0 ≤ v (153 + 5 * e) ∧ v (153 + 5 * e) < v 0 * v 1) ∧ (0 ≤ v (154 + 5 * e) ∧ v (154 + 5 * e) ≤ v (155 + 5 * e) ∧ v (155 + 5 * e) ≤ 2) ∧ (0 ≤ v (156 + 5 * e) ∧ v (156 + 5 * e) ≤ 999)
def PPlans (o : Nat) (z : zH) (v : Int → Int) : Prop := (z o 0 = 4 ∧ z o 1 = 21 ∧ z o 3 = v 8 ∧ (0 ≤ v 8 ∧ v 8 ≤ 4)) ∧ (∀ p, 0 ≤ p → p < 4 → z (o + 1) (21 * p + 20) = v (192 + 21 * p) ∧ ∀ i, 0 ≤ i → i < 20 → z (o + 1) (21 * p + i) = v (193 + 21 * p + i)) ∧ ∀ p, 0 ≤ p → p < v 8 → (0 ≤ v (192 + 21 * p) ∧ v (192 + 21 * p) ≤ 20) ∧ ∀ i, 0 ≤ i → i < v (192 + 21 * p) → 0 ≤ v (193 + 21 * p + i) ∧ v (193 + 21 * p + i) ≤ 8
def PScenes (o : Nat) (z : zH) (v : Int → Int) : Prop := RRows o 5 4 9 276 z v ∧ ∀ e, 0 ≤ e → e < v 9 → (1 ≤ v (276 + 4 * e) ∧ v (276 + 4 * e) ≤ 99) ∧ (0 ≤ v (277 + 4 * e) ∧ v (277 + 4 * e) ≤ 9) ∧ (0 ≤ v (278 + 4 * e) ∧ v (278 + 4 * e) ≤ 20) ∧ (0 ≤ v (279 + 4 * e) ∧ v (279 + 4 * e) ≤ 20)
def PSteps (o : Nat) (z : zH) (v : Int → Int) : Prop := RRows o 7 3 11 483 z v ∧ ∀ e, 0 ≤ e → e < v 11 → (1 ≤ v (483 + 3 * e) ∧ v (483 + 3 * e) ≤ 20) ∧ (1 ≤ v (484 + 3 * e) ∧ v (484 + 3 * e) ≤ 99) ∧ (1 ≤ v (485 + 3 * e) ∧ v (485 + 3 * e) ≤ 99)
def PJobs (o : Nat) (z : zH) (v : Int → Int) : Prop := RRows o 8 1 12 504 z v ∧ ∀ e, 0 ≤ e → e < v 12 → 1 ≤ v (504 + e) ∧ v (504 + e) ≤ 50
def PTrials (o : Nat) (z : zH) (v : Int → Int) : Prop := RRows o 20 3 13 512 z v ∧ ∀ e, 0 ≤ e → e < v 13 → (0 ≤ v (512 + 3 * e) ∧ v (512 + 3 * e) ≤ 1) ∧ (0 ≤ v (513 + 3 * e) ∧ v (513 + 3 * e) ≤ 60) ∧ (-1 ≤ v (514 + 3 * e) ∧ v (514 + 3 * e) ≤ 7)
/-- a code of the class's hands, of the model's: what each step does to a stack -/
def vEnv (c : crft) (t g h : Int) (k : Int) : Int := if k = 0 then c.2.2.2 else if k = 1 then c.2.2.1 else if k = 2 then c.2.1 else if k = 3 then t else if k = 4 then g else if k = 5 then h else if 0 < c.2.2.2 - g then c.2.2.2 - g else 0
def vVal (r : Int → Int) (k : Int) : Int := if k < 1000 then k else r (k - 1000)
def vCmp (s a b : Int) : Int := if (if s = 0 then a < b else if s = 1 then a = b else b < a) then 1 else 0
def cStep (r : Int → Int) (c s : Int) : Int :=
  if c = 0 then s + 1 - 2 * (s % 2)
  else if c = 1 then (if s % 2 = 1 then s / 2 else s / 2 - s / 2 % 2)
  else if c = 2 then (if s % 2 = 1 then s / 2 - s / 2 % 2 + 1 else s / 2)
  else 2 * s + vCmp ((c - 3) / 1024 / 1024) (vVal r ((c - 3) / 1024 % 1024)) (vVal r ((c - 3) % 1024))
def cOk (c : Int) : Prop := 0 ≤ c ∧ c < 3 + 3 * 1048576 ∧ (3 ≤ c → (c - 3) / 1024 % 1024 ≤ 1006 ∧ (c - 3) % 1024 ≤ 1006)
def Crun (co r : Int → Int) : Nat → Int → Int → Int → Prop
  | 0, _, s, s' => s' = s
  | m + 1, k, s, s' => cOk (co k) ∧ (0 ≤ s ∧ s < 268435456) ∧ Crun co r m (k + 1) (cStep r (co k) s) s'
def mPut (p : Int → Int) (n v : Int) : Int → Int := fun k => if k = n then v else p k
def mStep (r : Int → Int) (c : Int) (p : Int → Int) (n : Int) : (Int → Int) × Int :=
  if 0 ≤ c then (mPut p n (vCmp (c / 1010 / 1010) (vVal r (c / 1010 % 1010)) (vVal r (c % 1010))), n + 1)
  else if c = -1 then (mPut p (n - 1) (1 - p (n - 1)), n)
  else (mPut p (n - 2) (if c = -2 then p (n - 2) * p (n - 1) else p (n - 2) + p (n - 1) - p (n - 2) * p (n - 1)), n - 1)
def mOk (c n : Int) : Prop := if 0 ≤ c then c < 3 * 1020100 ∧ c / 1010 % 1010 ≤ 1006 ∧ c % 1010 ≤ 1006 else if c = -1 then 1 ≤ n else (c = -2 ∨ c = -3) ∧ 2 ≤ n
def Mrun (co r : Int → Int) : Nat → Int → (Int → Int) → Int → (Int → Int) → Int → Prop
  | 0, _, p, n, p', n' => p' = p ∧ n' = n
  | m + 1, k, p, n, p', n' => mOk (co k) n ∧ (0 ≤ n ∧ n < 100) ∧ Mrun co r m (k + 1) (mStep r (co k) p n).1 (mStep r (co k) p n).2 p' n'
/-- a stretch of the class's code and one of the model's say the same: B, so deep -/
def Den (cc mc : Int → Int) (a b ma mb : Int) (B : (Int → Int) → Int) (D : Nat) : Prop := (0 ≤ a ∧ a ≤ b ∧ b ≤ 240) ∧ (0 ≤ ma ∧ ma ≤ mb ∧ mb ≤ 160) ∧ (∀ r, B r = 0 ∨ B r = 1) ∧ (∀ r s, 0 ≤ s → s * 2 ^ D < 268435456 → Crun cc r (b - a).toNat a s (2 * s + B r)) ∧
  (∀ r p n, 0 ≤ n → n + D ≤ 100 → (∀ j, 0 ≤ j → j < n → p j = 0 ∨ p j = 1) → ∃ p', Mrun mc r (mb - ma).toNat ma p n p' (n + 1) ∧ p' n = B r ∧ ∀ j, j < n → p' j = p j)
def PHands (o : Nat) (z : zH) (v : Int → Int) : Prop := z o 3 = v 10 ∧ (0 ≤ v 10 ∧ v 10 ≤ 9) ∧ ∀ i, 0 ≤ i → i < v 10 → z (o + 1) i = v (296 + 3 * i) ∧ (0 ≤ v (296 + 3 * i) ∧ v (296 + 3 * i) ≤ 3) ∧ ∃ B, Den (z (o + 3)) (fun k => v (323 + k)) (z (o + 2) i) (z (o + 2) (i + 1)) (v (297 + 3 * i)) (v (298 + 3 * i)) B 16
def PWorld (o : Nat) (z : zH) (v : Int → Int) : Prop := PLand (o + 1) z v ∧ PCraft (o + 5) z v ∧ PEnds (o + 6) z v ∧ PPlans (o + 8) z v ∧ PScenes (o + 10) z v ∧ PHands (o + 12) z v ∧ PSteps (o + 16) z v ∧ PJobs (o + 18) z v ∧ PTrials (o + 20) z v
def PTape (z : zH) : Prop := z 55 1 = z 100 4 ∧ (0 ≤ z 100 4 ∧ z 100 4 ≤ 240) ∧ ∀ i, 0 ≤ i → i < z 100 4 → (-128 ≤ z 56 i ∧ z 56 i ≤ 127) ∧ z 103 i = z 56 i % 256
def PRows (z : zH) : Prop := (z 68 0 = 30 ∧ z 68 1 = 2 ∧ z 47 0 = 30 ∧ z 47 1 = 2) ∧ z 68 3 = z 100 31 ∧ (0 ≤ z 100 31 ∧ z 100 31 ≤ 30) ∧ ∀ k, 0 ≤ k → k < 2 * z 100 31 → z 69 k = z 115 k
def PSheet (s : Int) (z : zH) : Prop := z (73 + 2 * s.toNat) 0 = z 117 s ∧ z (73 + 2 * s.toNat) 1 = z 118 s ∧ (-1 ≤ z 117 s ∧ z 117 s ≤ 4) ∧ (0 ≤ z 118 s ∧ z 118 s ≤ 64) ∧ (z 117 s = -1 → z 118 s = 0) ∧ ∀ i, 0 ≤ i → i < 64 → z (74 + 2 * s.toNat) i = z 119 (64 * s + i)
def PSheets (z : zH) : Prop := ∀ s, 0 ≤ s → s < 4 → PSheet s z
def PShelf (s : Int) (z : zH) : Prop := (z 71 (3 * s) = 3 ∧ z 120 s = 0) ∨ (z 71 (3 * s) = 0 ∧ z 120 s = 1 ∧ z 71 (3 * s + 1) = z 121 s) ∨ (z 71 (3 * s) = 1 ∧ z 120 s = 2 ∧ z 71 (3 * s + 1) = z 121 s) ∨ (z 71 (3 * s) = 2 ∧ z 120 s = 3 ∧ z 71 (3 * s + 1) = z 122 s ∧ z 71 (3 * s + 2) = z 121 s ∧ (0 ≤ z 121 s ∧ z 121 s ≤ 4) ∧ (0 ≤ z 122 s ∧ z 122 s ≤ 64))
def PShelves (z : zH) : Prop := (z 70 0 = 4 ∧ z 70 1 = 3 ∧ z 70 3 = 4) ∧ ∀ s, 0 ≤ s → s < 4 → PShelf s z
def PTrace (z : zH) : Prop := z 66 1 = z 100 40 ∧ (0 ≤ z 100 40 ∧ z 100 40 ≤ 30) ∧ ∀ i, 0 ≤ i → i < z 100 40 → z 67 i = z 123 i
def PKept (z : zH) : Prop := z 0 2 = z 100 2 ∧ ((z 29 0 = 8 ∧ z 29 1 = 5) ∧ (z 31 0 = 4 ∧ z 31 1 = 21) ∧ (z 33 0 = 5 ∧ z 33 1 = 4) ∧ (z 39 0 = 7 ∧ z 39 1 = 3) ∧ (z 41 0 = 8 ∧ z 41 1 = 1) ∧ (z 43 0 = 20 ∧ z 43 1 = 3)) ∧ (z 100 2 = 0 ∨ (z 100 2 = 1 ∧ PWorld 23 z (z 102)))
def Inv (z : zH) : Prop := zRR z ∧ PWorld 1 z (z 101) ∧ PKept z ∧ PTape z ∧ PRows z ∧ PSheets z ∧ PShelves z ∧ PTrace z
