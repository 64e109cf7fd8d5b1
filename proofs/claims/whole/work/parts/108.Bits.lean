/-! PURE, part 38: whether a LINE holds, on both sides -/
theorem xorL : ∀ b : Fin 2, True := fun _ => trivial
theorem nat_I {a : Int} (h0 : 0 ≤ a) : zI a = Int32.ofNat a.toNat := by
  unfold zI
  rw [← Int32.ofInt_eq_ofNat, Int.toNat_of_nonneg h0]
theorem bv_zI {a : Int} (h : 0 ≤ a ∧ a < 2147483648) : (zI a).toBitVec = BitVec.ofNat 32 a.toNat := by
  rw [nat_I h.1]
  rfl
theorem zI_bv {a : Int} {x : Int32} (h : 0 ≤ a) (e : x.toBitVec = BitVec.ofNat 32 a.toNat) : x = zI a := by
  rw [nat_I h]
  exact Int32.toBitVec_inj.mp e
theorem zI_xor1 {s : Int} (h : 0 ≤ s ∧ s < 268435456) : zI s ^^^ zI 1 = zI (s + 1 - 2 * (s % 2)) := by
  refine zI_bv (by omega) ?_
  rw [Int32.toBitVec_xor, bv_zI (by omega), bv_zI (by omega)]
  apply BitVec.eq_of_toNat_eq
  rw [BitVec.toNat_xor, BitVec.toNat_ofNat, BitVec.toNat_ofNat, BitVec.toNat_ofNat]
  have e1 : (1 : Int).toNat % 2 ^ 32 = 1 := by decide
  rw [e1, Nat.mod_eq_of_lt (by omega), Nat.mod_eq_of_lt (by omega)]
  generalize hn : s.toNat = n
  have hs : s = n := by omega
  subst hs
  apply Nat.eq_of_testBit_eq
  intro i
  rw [Nat.testBit_xor]
  rcases Nat.mod_two_eq_zero_or_one n with q | q
  · have e : ((n : Int) + 1 - 2 * ((n : Int) % 2)).toNat = n + 1 := by omega
    rw [e]
    cases i with
    | zero =>
      have w : (n + 1) % 2 = 1 := by omega
      simp [Nat.testBit_zero, q, w]
    | succ i => rw [Nat.testBit_succ, Nat.testBit_succ, Nat.testBit_succ, show (n + 1) / 2 = n / 2 by omega, show 1 / 2 = 0 from rfl]; simp
  · have e : ((n : Int) + 1 - 2 * ((n : Int) % 2)).toNat = n - 1 := by omega
    rw [e]
    cases i with
    | zero =>
      have w : (n - 1) % 2 = 0 := by omega
      simp [Nat.testBit_zero, q, w]
    | succ i => rw [Nat.testBit_succ, Nat.testBit_succ, Nat.testBit_succ, show (n - 1) / 2 = n / 2 by omega, show 1 / 2 = 0 from rfl]; simp
theorem shr1_I {s : Int} (h : 0 ≤ s ∧ s < 268435456) : ((zI s).toUInt32 >>> ((zI 1).toUInt32 &&& Int32.toUInt32 (zI 31))).toInt32 = zI (s / 2) := by
  refine zI_bv (by omega) ?_
  have e1 : (zI 1).toUInt32 &&& Int32.toUInt32 (zI 31) = 1 := by decide
  rw [e1]
  show ((zI s).toBitVec >>> (1 : BitVec 32)) = _
  rw [bv_zI (by omega)]
  apply BitVec.eq_of_toNat_eq
  show (BitVec.ofNat 32 s.toNat >>> (1 : BitVec 32).toNat).toNat = _
  rw [BitVec.toNat_ushiftRight, BitVec.toNat_ofNat, BitVec.toNat_ofNat]
  rw [Nat.mod_eq_of_lt (by omega), Nat.mod_eq_of_lt (by omega)]
  show s.toNat >>> 1 = _
  rw [Nat.shiftRight_eq_div_pow]
  omega
theorem or1_I {s : Int} (h : 0 ≤ s ∧ s < 1073741824) : zI s ||| zI 1 = zI (s - s % 2 + 1) ∧ zI s ||| zI 0 = zI s := by
  refine ⟨?_, Int32.or_zero⟩
  refine zI_bv (by omega) ?_
  rw [Int32.toBitVec_or, bv_zI (by omega), bv_zI (by omega)]
  apply BitVec.eq_of_toNat_eq
  rw [BitVec.toNat_or, BitVec.toNat_ofNat, BitVec.toNat_ofNat, BitVec.toNat_ofNat]
  have e1 : (1 : Int).toNat % 2 ^ 32 = 1 := by decide
  rw [e1, Nat.mod_eq_of_lt (by omega), Nat.mod_eq_of_lt (by omega)]
  generalize hn : s.toNat = n
  have hs : s = n := by omega
  subst hs
  have e : ((n : Int) - (n : Int) % 2 + 1).toNat = n - n % 2 + 1 := by omega
  rw [e]
  apply Nat.eq_of_testBit_eq
  intro i
  rw [Nat.testBit_or]
  cases i with
  | zero => simp [Nat.testBit_zero]; omega
  | succ i => rw [Nat.testBit_succ, Nat.testBit_succ, Nat.testBit_succ, show (n - n % 2 + 1) / 2 = n / 2 by omega, show 1 / 2 = 0 from rfl]; simp
theorem and_m1 (s : Int) : zI s &&& (zI 0 ^^^ zI (-1)) = zI s := by
  have e : zI 0 ^^^ zI (-1) = -1 := by decide
  rw [e]
  exact Int32.and_neg_one
theorem and_m2 {s : Int} (h : 0 ≤ s ∧ s < 268435456) : zI s &&& (zI 1 ^^^ zI (-1)) = zI (s - s % 2) := by
  refine zI_bv (by omega) ?_
  have e : (zI 1 ^^^ zI (-1)).toBitVec = 4294967294#32 := by decide
  rw [Int32.toBitVec_and, e, bv_zI (by omega)]
  apply BitVec.eq_of_toNat_eq
  rw [BitVec.toNat_and, BitVec.toNat_ofNat, BitVec.toNat_ofNat, BitVec.toNat_ofNat]
  rw [Nat.mod_eq_of_lt (by omega), Nat.mod_eq_of_lt (by omega), Nat.mod_eq_of_lt (by omega)]
  generalize hn : s.toNat = n
  have hs : s = n := by omega
  subst hs
  have e : ((n : Int) - (n : Int) % 2).toNat = n - n % 2 := by omega
  rw [e]
  apply Nat.eq_of_testBit_eq
  intro i
  rw [Nat.testBit_and]
  cases i with
  | zero => simp [Nat.testBit_zero]; omega
  | succ i =>
    rw [Nat.testBit_succ, Nat.testBit_succ, Nat.testBit_succ, show (n - n % 2) / 2 = n / 2 by omega, show 4294967294 / 2 = 2147483647 from rfl]
    by_cases hi : i < 31
    · have : Nat.testBit 2147483647 i = true := by
        have : (2147483647 : Nat) = 2 ^ 31 - 1 := by decide
        rw [this, Nat.testBit_two_pow_sub_one]
        simp [hi]
      rw [this]; simp
    · have : Nat.testBit (n / 2) i = false := by
        apply Nat.testBit_lt_two_pow
        have : 2 ^ 31 ≤ 2 ^ i := Nat.pow_le_pow_right (by omega) (by omega)
        omega
      rw [this]; simp
