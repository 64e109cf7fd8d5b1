/-! PURE, part 44: feed -/
theorem b255 : ∀ i : Nat, i < 32 → (255#32).getLsbD i = decide (i < 8) := by decide
theorem byte_m (x : Int64) (s : Nat) (hs : s < 57) (t : Int64) (ht : t.toBitVec.smod 64 = BitVec.ofNat 64 s) : ((x >>> t) &&& (Int64.ofNat 255)).toInt32.toBitVec = (x.toBitVec.extractLsb' s 8).setWidth 32 := by
  have e : ((x >>> t) &&& (Int64.ofNat 255)).toInt32.toBitVec = ((x.toBitVec.sshiftRight s) &&& 255#64).setWidth 32 := by
    show ((x.toBitVec.sshiftRight' (t.toBitVec.smod 64)) &&& 255#64).signExtend 32 = _
    rw [ht, BitVec.sshiftRight']
    rw [BitVec.toNat_ofNat, Nat.mod_eq_of_lt (by omega)]
    exact BitVec.signExtend_eq_setWidth_of_le _ (by omega)
  rw [e]
  apply BitVec.eq_of_getLsbD_eq
  intro i hi
  simp
  rw [b255 i hi, BitVec.getLsbD_sshiftRight]
  by_cases q : i < 8
  · rw [if_pos (by omega)]
    simp [q]
    simp [show i < 32 by omega, show ¬ 64 ≤ i by omega]
  · simp [q]
theorem byte_c (x : Int64) (s : Nat) (hs : s < 57) (t : UInt64) (ht : t.toBitVec % 64 = BitVec.ofNat 64 s) : (((((x.toUInt64 >>> t).toInt64).toInt32).toInt8.toInt32).toInt8.toInt32).toBitVec = (x.toBitVec.extractLsb' s 8).signExtend 32 := by
  have e : (((x.toUInt64 >>> t).toInt64).toInt32).toInt8.toBitVec = x.toBitVec.extractLsb' s 8 := by
    show (((x.toBitVec >>> (t.toBitVec % 64)).signExtend 32).signExtend 8) = _
    rw [ht, BitVec.signExtend_eq_setWidth_of_le _ (by omega), BitVec.signExtend_eq_setWidth_of_le _ (by omega)]
    apply BitVec.eq_of_getLsbD_eq
    intro i hi
    rw [BitVec.ushiftRight_eq', BitVec.toNat_ofNat, Nat.mod_eq_of_lt (by omega)]
    simp
  show ((((((x.toUInt64 >>> t).toInt64).toInt32).toInt8.toBitVec.signExtend 32).signExtend 8).signExtend 32) = _
  rw [e]
  congr 1
  rw [BitVec.signExtend_eq_setWidth_of_le _ (by omega)]
  apply BitVec.eq_of_getLsbD_eq
  intro i hi
  rw [BitVec.getLsbD_setWidth, BitVec.getLsbD_signExtend, if_pos hi]
  simp [hi, show i < 32 by omega]
theorem byte_rel (b : BitVec 8) : (-128 ≤ b.toInt ∧ b.toInt ≤ 127) ∧ (b.toNat : Int) = b.toInt % 256 := by
  have h := b.isLt
  have e := BitVec.toInt_eq_toNat_cond b
  split at e <;> omega
def byteI (x : Int64) (i : Int) : Int := (x.toBitVec.extractLsb' (8 * i.toNat) 8).toInt
theorem byteI_b (x : Int64) (i : Int) : -128 ≤ byteI x i ∧ byteI x i ≤ 127 := (byte_rel _).1
theorem shC : ∀ k : Fin 8, ((zI (8 * (k.val : Int))).toInt64.toUInt64 &&& Int64.toUInt64 63).toBitVec % 64 = BitVec.ofNat 64 (8 * k.val) := by decide +kernel
theorem shM : ∀ k : Fin 8, ((zI (8 * (k.val : Int))).toInt64 &&& 63).toBitVec.smod 64 = BitVec.ofNat 64 (8 * k.val) := by decide +kernel
theorem byteC (x : Int64) {i : Int} (hi : 0 ≤ i ∧ i < 8) : (((((x.toUInt64 >>> ((zI (8 * i)).toInt64.toUInt64 &&& Int64.toUInt64 63)).toInt64).toInt32).toInt8.toInt32).toInt8.toInt32) = zI (byteI x i) := by
  have b := byteI_b x i
  have w := shC ⟨i.toNat, by omega⟩
  simp only [show ((i.toNat : Nat) : Int) = i by omega] at w
  have e := byte_c x (8 * i.toNat) (by omega) _ w
  apply Int32.toInt_inj.mp
  rw [zI_toInt (zR_s (by omega))]
  show BitVec.toInt _ = _
  rw [e, BitVec.toInt_signExtend_of_le (by omega)]
  rfl
theorem byteM (x : Int64) {i : Int} (hi : 0 ≤ i ∧ i < 8) : ((x >>> ((zI (8 * i)).toInt64 &&& 63)) &&& (Int64.ofNat 255)).toInt32 = zI (byteI x i % 256) := by
  have b := byteI_b x i
  have w := shM ⟨i.toNat, by omega⟩
  simp only [show ((i.toNat : Nat) : Int) = i by omega] at w
  have e := byte_m x (8 * i.toNat) (by omega) _ w
  have r := (byte_rel (x.toBitVec.extractLsb' (8 * i.toNat) 8)).2
  have l := (x.toBitVec.extractLsb' (8 * i.toNat) 8).isLt
  apply Int32.toInt_inj.mp
  rw [zI_toInt (zR_s (by omega))]
  show BitVec.toInt _ = _
  rw [e, BitVec.toInt_eq_toNat_of_lt (by rw [BitVec.toNat_setWidth]; omega), BitVec.toNat_setWidth, Nat.mod_eq_of_lt (by omega), r]
  rfl
