/-! WHOLE NUMBERS FOR INTS; heaps of whole numbers, their places whole numbers too -/
def zI (z : Int) : Int32 := Int32.ofInt z
def zR (a : Int) : Prop := -2147483648 ≤ a ∧ a < 2147483648
theorem zI_toInt {a : Int} (h : zR a) : (zI a).toInt = a := Int32.toInt_ofInt_of_le (by unfold zR at h; omega) (by unfold zR at h; omega)
theorem zI_of (x : Int32) : zI x.toInt = x := Int32.ofInt_toInt x
theorem zR_of (x : Int32) : zR x.toInt := by
  have h1 := Int32.le_toInt x
  have h2 := Int32.toInt_lt x
  unfold zR
  omega
theorem zI_ex (x : Int32) : ∃ a, zR a ∧ x = zI a := ⟨x.toInt, zR_of x, (zI_of x).symm⟩
theorem zI_add (a b : Int) : zI a + zI b = zI (a + b) := (Int32.ofInt_add a b).symm
theorem zI_sub (a b : Int) : zI a - zI b = zI (a - b) := (Int32.ofInt_sub a b).symm
theorem zI_mul (a b : Int) : zI a * zI b = zI (a * b) := (Int32.ofInt_mul a b).symm
theorem zI_neg (a : Int) : -zI a = zI (-a) := (Int32.ofInt_neg a).symm
theorem zI_lt {a b : Int} (ha : zR a) (hb : zR b) : zI a < zI b ↔ a < b := by
  rw [Int32.lt_iff_toInt_lt, zI_toInt ha, zI_toInt hb]
theorem zI_eq {a b : Int} (ha : zR a) (hb : zR b) : zI a = zI b ↔ a = b := by
  rw [← Int32.toInt_inj, zI_toInt ha, zI_toInt hb]
theorem zI_nat {a : Int} (ha : zR a) : (zI a).toNatClampNeg = a.toNat := by
  show (zI a).toInt.toNat = _
  rw [zI_toInt ha]
theorem zI_div {a b : Int} (ha : zR a) (h0 : 0 ≤ a) (hb : 0 < b) (hb2 : zR b) : zI a / zI b = zI (a / b) := by
  have h1 : (zI a / zI b).toInt = a / b := by
    rw [Int32.toInt_div, zI_toInt ha, zI_toInt hb2, Int.tdiv_eq_ediv_of_nonneg h0]
    have h2 : 0 ≤ a / b := Int.ediv_nonneg h0 (by omega)
    have h3 : a / b ≤ a := Int.ediv_le_self b h0
    unfold zR at ha
    rw [Int.bmod_eq_of_le (by omega) (by omega)]
  rw [← zI_of (zI a / zI b), h1]
theorem zI_rem {a b : Int} (ha : zR a) (h0 : 0 ≤ a) (hb : 0 < b) (hb2 : zR b) : zI a - zI a / zI b * zI b = zI (a % b) := by
  rw [zI_div ha h0 hb hb2, zI_mul, zI_sub]
  congr 1
  rw [Int.emod_def, Int.mul_comm]
theorem zI_ite {c : Prop} [Decidable c] (a b : Int) : (if c then zI a else zI b) = zI (if c then a else b) := by split <;> rfl
theorem zI_nI (n : Nat) : nI n = zI (n : Int) := (Int32.ofInt_eq_ofNat).symm
theorem zI_and3 (a : Int) : zI a &&& zI 3 = zI (a % 4) := by
  have h := pk_and (zI a) (m := zI 3) 2 (by decide)
  rw [h, zI_nI]
  congr 1
  have e : (zI a).toBitVec.toNat = (a % 4294967296).toNat := by
    show (BitVec.ofInt 32 a).toNat = _
    rw [BitVec.toNat_ofInt]
    rfl
  rw [e]
  omega
theorem zI_and1 (a : Int) : zI a &&& zI 1 = zI (a % 2) := by
  have h := pk_and (zI a) (m := zI 1) 1 (by decide)
  rw [h, zI_nI]
  congr 1
  have e : (zI a).toBitVec.toNat = (a % 4294967296).toNat := by
    show (BitVec.ofInt 32 a).toNat = _
    rw [BitVec.toNat_ofInt]
    rfl
  rw [e]
  omega
abbrev zH : Type := Nat → Int → Int
def hI (z : zH) : xH := fun o k => zI (z o k)
def zup (z : zH) (o : Nat) (k v : Int) : zH := fun p q => if p = o ∧ q = k then v else z p q
theorem hI_n (z : zH) (o k : Nat) : hI z o k = zI (z o (k : Int)) := rfl
theorem hI_un (z : zH) (o k : Nat) (v : Int) : xup (hI z) o k (zI v) = hI (zup z o (k : Int) v) := by
  funext p q
  unfold xup hI zup
  by_cases h : p = o ∧ q = k
  · rw [if_pos h, if_pos ⟨h.1, by rw [h.2]⟩]
  · rw [if_neg h, if_neg (fun e => h ⟨e.1, by omega⟩)]
/-- a load, a store at a place that was looked at -/
theorem zld {z : zH} {o : Nat} {a : Int} (h0 : 0 ≤ a) : hI z o a.toNat = zI (z o a) := by
  rw [hI_n, Int.toNat_of_nonneg h0]
theorem zst {z : zH} {o : Nat} {a v : Int} (h0 : 0 ≤ a) : xup (hI z) o a.toNat (zI v) = hI (zup z o a v) := by
  rw [hI_un, Int.toNat_of_nonneg h0]
theorem zbd {n : Nat} {a : Int} {X : xO} (h0 : 0 ≤ a) (h1 : a < (n : Int)) : (if a < 0 ∨ n ≤ a.toNat then none else X) = X := by
  rw [if_neg]
  omega
theorem hI_of (h : xH) : ∃ z : zH, (∀ o k, zR (z o k)) ∧ h = hI z := ⟨fun o k => (h o k.toNat).toInt, fun o k => zR_of _, by funext o k; exact (zI_of _).symm⟩
theorem xbd_s (r : Int32 × xH) (f : Int32 → xH → xO) : xbd (some r) f = f r.1 r.2 := rfl
def zB (P : Prop) [Decidable P] : Int32 := if P then 1 else 0
theorem zB_0 (P : Prop) [Decidable P] : (zB P = zI 0) = ¬ P := by
  unfold zB
  by_cases h : P
  · rw [if_pos h]; simp [h]; decide
  · rw [if_neg h]; simp [h]; decide
theorem zB_1 (P : Prop) [Decidable P] : xb01 (zB P) = true := by
  unfold zB
  by_cases h : P
  · rw [if_pos h]; decide
  · rw [if_neg h]; decide
theorem zB_t {P : Prop} [Decidable P] (h : P) : zI 1 = zB P := by unfold zB; rw [if_pos h]; rfl
theorem zB_f {P : Prop} [Decidable P] (h : ¬ P) : zI 0 = zB P := by unfold zB; rw [if_neg h]; rfl
theorem zB_z {P : Prop} [Decidable P] : zB P = zI (if P then 1 else 0) := by unfold zB; split <;> rfl
theorem zup_ne (z : zH) {o p : Nat} (k v : Int) (h : p ≠ o) : zup z o k v p = z p := by
  funext q
  unfold zup
  rw [if_neg (fun e => h e.1)]
theorem hs_t {c : Prop} [Decidable c] {A B X : xO} (h : c) (k : A = X) : (if c then A else B) = X := by rw [if_pos h]; exact k
theorem hs_f {c : Prop} [Decidable c] {A B X : xO} (h : ¬ c) (k : B = X) : (if c then A else B) = X := by rw [if_neg h]; exact k
theorem hs_c {c : Prop} [Decidable c] {A B X : xO} (h : c → A = X) (k : ¬ c → B = X) : (if c then A else B) = X := by
  by_cases q : c
  · rw [if_pos q]; exact h q
  · rw [if_neg q]; exact k q
theorem hs_b {o : xO} {f : Int32 → xH → xO} {r : Int32 × xH} {X : xO} (h : o = some r) (k : f r.1 r.2 = X) : xbd o f = X := by rw [h]; exact k
theorem zB_l1 {P : Prop} [Decidable P] {h : xH} (p : P) : some ((1 : Int32), h) = some (zB P, h) := by unfold zB; rw [if_pos p]
theorem zB_l0 {P : Prop} [Decidable P] {h : xH} (p : ¬ P) : some ((0 : Int32), h) = some (zB P, h) := by unfold zB; rw [if_neg p]
theorem zup_at (z : zH) (o : Nat) (k v : Int) (p : Nat) (q : Int) : zup z o k v p q = if p = o ∧ q = k then v else z p q := rfl
theorem zLit : ((0 : Int32) = zI 0) ∧ ((1 : Int32) = zI 1) ∧ ((2 : Int32) = zI 2) ∧ ((3 : Int32) = zI 3) ∧ ((4 : Int32) = zI 4) ∧ ((5 : Int32) = zI 5) ∧ ((6 : Int32) = zI 6) ∧ ((7 : Int32) = zI 7) ∧ ((8 : Int32) = zI 8) ∧ ((9 : Int32) = zI 9) ∧ ((10 : Int32) = zI 10) ∧ ((11 : Int32) = zI 11) ∧ ((12 : Int32) = zI 12) ∧ ((13 : Int32) = zI 13) ∧ ((14 : Int32) = zI 14) ∧ ((15 : Int32) = zI 15) ∧ ((18 : Int32) = zI 18) ∧ ((19 : Int32) = zI 19) ∧ ((20 : Int32) = zI 20) ∧ ((21 : Int32) = zI 21) ∧ ((24 : Int32) = zI 24) ∧ ((25 : Int32) = zI 25) ∧ ((26 : Int32) = zI 26) ∧ ((27 : Int32) = zI 27) ∧ ((30 : Int32) = zI 30) ∧ ((31 : Int32) = zI 31) ∧ ((32 : Int32) = zI 32) ∧ ((40 : Int32) = zI 40) ∧ ((41 : Int32) = zI 41) ∧ ((48 : Int32) = zI 48) ∧ ((50 : Int32) = zI 50) ∧ ((57 : Int32) = zI 57) ∧ ((59 : Int32) = zI 59) ∧ ((60 : Int32) = zI 60) ∧ ((61 : Int32) = zI 61) ∧ ((62 : Int32) = zI 62) ∧ ((64 : Int32) = zI 64) ∧ ((70 : Int32) = zI 70) ∧ ((71 : Int32) = zI 71) ∧ ((72 : Int32) = zI 72) ∧ ((73 : Int32) = zI 73) ∧ ((88 : Int32) = zI 88) ∧ ((97 : Int32) = zI 97) ∧ ((99 : Int32) = zI 99) ∧ ((100 : Int32) = zI 100) ∧ ((122 : Int32) = zI 122) ∧ ((152 : Int32) = zI 152) ∧ ((160 : Int32) = zI 160) ∧ ((192 : Int32) = zI 192) ∧ ((200 : Int32) = zI 200) ∧ ((240 : Int32) = zI 240) ∧ ((255 : Int32) = zI 255) ∧ ((276 : Int32) = zI 276) ∧ ((296 : Int32) = zI 296) ∧ ((323 : Int32) = zI 323) ∧ ((483 : Int32) = zI 483) ∧ ((504 : Int32) = zI 504) ∧ ((512 : Int32) = zI 512) ∧ ((572 : Int32) = zI 572) ∧ ((768 : Int32) = zI 768) ∧ ((999 : Int32) = zI 999) ∧ ((1000 : Int32) = zI 1000) ∧ ((1001 : Int32) = zI 1001) ∧ ((1002 : Int32) = zI 1002) ∧ ((1003 : Int32) = zI 1003) ∧ ((1004 : Int32) = zI 1004) ∧ ((1005 : Int32) = zI 1005) ∧ ((1006 : Int32) = zI 1006) ∧ ((1010 : Int32) = zI 1010) ∧ ((1024 : Int32) = zI 1024) := by
  (repeat' apply And.intro) <;> decide +kernel
theorem hI_fs (z : zH) (o : Nat) : (hI z o 0 = zI (z o 0)) ∧ (hI z o 1 = zI (z o 1)) ∧ (hI z o 2 = zI (z o 2)) ∧ (hI z o 3 = zI (z o 3)) ∧ (hI z o 4 = zI (z o 4)) ∧ (hI z o 5 = zI (z o 5)) ∧ (hI z o 6 = zI (z o 6)) ∧ (hI z o 7 = zI (z o 7)) ∧ (hI z o 8 = zI (z o 8)) ∧ (hI z o 9 = zI (z o 9)) ∧ (hI z o 10 = zI (z o 10)) ∧ (hI z o 11 = zI (z o 11)) ∧ (hI z o 12 = zI (z o 12)) ∧ (hI z o 13 = zI (z o 13)) ∧ (hI z o 14 = zI (z o 14)) ∧ (hI z o 15 = zI (z o 15)) ∧ (hI z o 16 = zI (z o 16)) ∧ (hI z o 17 = zI (z o 17)) ∧ (hI z o 18 = zI (z o 18)) ∧ (hI z o 19 = zI (z o 19)) ∧ (hI z o 20 = zI (z o 20)) ∧ (hI z o 21 = zI (z o 21)) ∧ (hI z o 22 = zI (z o 22)) ∧ (hI z o 23 = zI (z o 23)) ∧ (hI z o 24 = zI (z o 24)) ∧ (hI z o 25 = zI (z o 25)) ∧ (hI z o 26 = zI (z o 26)) ∧ (hI z o 27 = zI (z o 27)) ∧ (hI z o 28 = zI (z o 28)) ∧ (hI z o 29 = zI (z o 29)) ∧ (hI z o 30 = zI (z o 30)) ∧ (hI z o 31 = zI (z o 31)) ∧ (hI z o 32 = zI (z o 32)) ∧ (hI z o 33 = zI (z o 33)) ∧ (hI z o 34 = zI (z o 34)) ∧ (hI z o 35 = zI (z o 35)) ∧ (hI z o 36 = zI (z o 36)) ∧ (hI z o 37 = zI (z o 37)) ∧ (hI z o 38 = zI (z o 38)) ∧ (hI z o 39 = zI (z o 39)) ∧ (hI z o 40 = zI (z o 40)) ∧ (hI z o 41 = zI (z o 41)) ∧ (hI z o 42 = zI (z o 42)) ∧ (hI z o 43 = zI (z o 43)) ∧ (hI z o 44 = zI (z o 44)) := by
  repeat' constructor
theorem hI_us (z : zH) (o : Nat) (v : Int) : (xup (hI z) o 0 (zI v) = hI (zup z o 0 v)) ∧ (xup (hI z) o 1 (zI v) = hI (zup z o 1 v)) ∧ (xup (hI z) o 2 (zI v) = hI (zup z o 2 v)) ∧ (xup (hI z) o 3 (zI v) = hI (zup z o 3 v)) ∧ (xup (hI z) o 4 (zI v) = hI (zup z o 4 v)) ∧ (xup (hI z) o 5 (zI v) = hI (zup z o 5 v)) ∧ (xup (hI z) o 6 (zI v) = hI (zup z o 6 v)) ∧ (xup (hI z) o 7 (zI v) = hI (zup z o 7 v)) ∧ (xup (hI z) o 8 (zI v) = hI (zup z o 8 v)) ∧ (xup (hI z) o 9 (zI v) = hI (zup z o 9 v)) ∧ (xup (hI z) o 10 (zI v) = hI (zup z o 10 v)) ∧ (xup (hI z) o 11 (zI v) = hI (zup z o 11 v)) ∧ (xup (hI z) o 12 (zI v) = hI (zup z o 12 v)) ∧ (xup (hI z) o 13 (zI v) = hI (zup z o 13 v)) ∧ (xup (hI z) o 14 (zI v) = hI (zup z o 14 v)) ∧ (xup (hI z) o 15 (zI v) = hI (zup z o 15 v)) ∧ (xup (hI z) o 16 (zI v) = hI (zup z o 16 v)) ∧ (xup (hI z) o 17 (zI v) = hI (zup z o 17 v)) ∧ (xup (hI z) o 18 (zI v) = hI (zup z o 18 v)) ∧ (xup (hI z) o 19 (zI v) = hI (zup z o 19 v)) ∧ (xup (hI z) o 20 (zI v) = hI (zup z o 20 v)) ∧ (xup (hI z) o 21 (zI v) = hI (zup z o 21 v)) ∧ (xup (hI z) o 22 (zI v) = hI (zup z o 22 v)) ∧ (xup (hI z) o 23 (zI v) = hI (zup z o 23 v)) ∧ (xup (hI z) o 24 (zI v) = hI (zup z o 24 v)) ∧ (xup (hI z) o 25 (zI v) = hI (zup z o 25 v)) ∧ (xup (hI z) o 26 (zI v) = hI (zup z o 26 v)) ∧ (xup (hI z) o 27 (zI v) = hI (zup z o 27 v)) ∧ (xup (hI z) o 28 (zI v) = hI (zup z o 28 v)) ∧ (xup (hI z) o 29 (zI v) = hI (zup z o 29 v)) ∧ (xup (hI z) o 30 (zI v) = hI (zup z o 30 v)) ∧ (xup (hI z) o 31 (zI v) = hI (zup z o 31 v)) ∧ (xup (hI z) o 32 (zI v) = hI (zup z o 32 v)) ∧ (xup (hI z) o 33 (zI v) = hI (zup z o 33 v)) ∧ (xup (hI z) o 34 (zI v) = hI (zup z o 34 v)) ∧ (xup (hI z) o 35 (zI v) = hI (zup z o 35 v)) ∧ (xup (hI z) o 36 (zI v) = hI (zup z o 36 v)) ∧ (xup (hI z) o 37 (zI v) = hI (zup z o 37 v)) ∧ (xup (hI z) o 38 (zI v) = hI (zup z o 38 v)) ∧ (xup (hI z) o 39 (zI v) = hI (zup z o 39 v)) ∧ (xup (hI z) o 40 (zI v) = hI (zup z o 40 v)) ∧ (xup (hI z) o 41 (zI v) = hI (zup z o 41 v)) ∧ (xup (hI z) o 42 (zI v) = hI (zup z o 42 v)) ∧ (xup (hI z) o 43 (zI v) = hI (zup z o 43 v)) ∧ (xup (hI z) o 44 (zI v) = hI (zup z o 44 v)) :=
  ⟨hI_un z o 0 v, hI_un z o 1 v, hI_un z o 2 v, hI_un z o 3 v, hI_un z o 4 v, hI_un z o 5 v, hI_un z o 6 v, hI_un z o 7 v, hI_un z o 8 v, hI_un z o 9 v, hI_un z o 10 v, hI_un z o 11 v, hI_un z o 12 v, hI_un z o 13 v, hI_un z o 14 v, hI_un z o 15 v, hI_un z o 16 v, hI_un z o 17 v, hI_un z o 18 v, hI_un z o 19 v, hI_un z o 20 v, hI_un z o 21 v, hI_un z o 22 v, hI_un z o 23 v, hI_un z o 24 v, hI_un z o 25 v, hI_un z o 26 v, hI_un z o 27 v, hI_un z o 28 v, hI_un z o 29 v, hI_un z o 30 v, hI_un z o 31 v, hI_un z o 32 v, hI_un z o 33 v, hI_un z o 34 v, hI_un z o 35 v, hI_un z o 36 v, hI_un z o 37 v, hI_un z o 38 v, hI_un z o 39 v, hI_un z o 40 v, hI_un z o 41 v, hI_un z o 42 v, hI_un z o 43 v, hI_un z o 44 v⟩
theorem lenX_s : lenX 3 = 64 ∧ lenX 4 = 64 ∧ lenX 5 = 9 ∧ lenX 8 = 40 ∧ lenX 10 = 84 ∧ lenX 12 = 20 ∧ lenX 14 = 9 ∧ lenX 15 = 10 ∧ lenX 16 = 240 ∧ lenX 18 = 21 ∧ lenX 20 = 8 ∧ lenX 22 = 60 ∧ lenX 25 = 64 ∧ lenX 26 = 64 ∧ lenX 27 = 9 ∧ lenX 30 = 40 ∧ lenX 32 = 84 ∧ lenX 34 = 20 ∧ lenX 36 = 9 ∧ lenX 37 = 10 ∧ lenX 38 = 240 ∧ lenX 40 = 21 ∧ lenX 42 = 8 ∧ lenX 44 = 60 ∧ lenX 48 = 60 ∧ lenX 51 = 768 ∧ lenX 52 = 100 ∧ lenX 53 = 768 ∧ lenX 54 = 768 ∧ lenX 56 = 240 ∧ lenX 58 = 9 ∧ lenX 59 = 10 ∧ lenX 60 = 240 ∧ lenX 61 = 241 ∧ lenX 62 = 241 ∧ lenX 63 = 241 ∧ lenX 65 = 128 ∧ lenX 67 = 30 ∧ lenX 69 = 60 ∧ lenX 71 = 12 ∧ lenX 72 = 4 ∧ lenX 74 = 64 ∧ lenX 76 = 64 ∧ lenX 78 = 64 ∧ lenX 80 = 64 ∧ lenX 101 = 572 ∧ lenX 102 = 572 ∧ lenX 103 = 240 ∧ lenX 104 = 768 ∧ lenX 105 = 100 ∧ lenX 106 = 7000 ∧ lenX 107 = 7000 ∧ lenX 108 = 60 ∧ lenX 109 = 60 ∧ lenX 110 = 4 ∧ lenX 111 = 7 ∧ lenX 112 = 27 ∧ lenX 113 = 160 ∧ lenX 114 = 160 ∧ lenX 115 = 60 ∧ lenX 116 = 128 ∧ lenX 117 = 4 ∧ lenX 118 = 4 ∧ lenX 119 = 256 ∧ lenX 120 = 4 ∧ lenX 121 = 4 ∧ lenX 122 = 4 ∧ lenX 123 = 30 := by
  (repeat' apply And.intro) <;> decide +kernel
