/-! PURE, part 44: feed -/
theorem b255 : ∀ i : Nat, i < 32 → (255#32).getLsbD i = decide (i < 8) := by decide
theorem byte_m (x : Int64) (s : Nat) (hs : s < 57) (t : Int64) (ht : t.toBitVec.smod 64 = BitVec.ofNat 64 s) : ((x >>> t) &&& (Int64.ofNat 255)).toInt32.toBitVec = (x.toBitVec.extractLsb' s 8).setWidth 32 := by
  have e : ((x >>> t) &&& (Int64.ofNat 255)).toInt32.toBitVec = ((x.toBitVec.sshiftRight s) &&& 255#64).setWidth 32 := by
    show ((x.toBitVec.sshiftRight' (t.toBitVec.smod 64)) &&& 255#64).signExtend 32 = _
    rw [ht, BitVec.sshiftRight']
    rw [BitVec.toNat_ofNat, Nat.mod_eq_of_lt (by omega)]
    exact BitVec.signExtend_eq_setWidth_of_le _ (by omega)
  rw [e]
  apply BitVec.eq_of_getLsbD_eq
  intro i hi
  simp
  rw [b255 i hi, BitVec.getLsbD_sshiftRight]
  by_cases q : i < 8
  · rw [if_pos (by omega)]
    simp [q]
    simp [show i < 32 by omega, show ¬ 64 ≤ i by omega]
  · simp [q]
theorem byte_c (x : Int64) (s : Nat) (hs : s < 57) (t : UInt64) (ht : t.toBitVec % 64 = BitVec.ofNat 64 s) : (((((x.toUInt64 >>> t).toInt64).toInt32).toInt8.toInt32).toInt8.toInt32).toBitVec = (x.toBitVec.extractLsb' s 8).signExtend 32 := by
  have e : (((x.toUInt64 >>> t).toInt64).toInt32).toInt8.toBitVec = x.toBitVec.extractLsb' s 8 := by
    show (((x.toBitVec >>> (t.toBitVec % 64)).signExtend 32).signExtend 8) = _
    rw [ht, BitVec.signExtend_eq_setWidth_of_le _ (by omega), BitVec.signExtend_eq_setWidth_of_le _ (by omega)]
    apply BitVec.eq_of_getLsbD_eq
    intro i hi
    rw [BitVec.ushiftRight_eq', BitVec.toNat_ofNat, Nat.mod_eq_of_lt (by omega)]
    simp
  show ((((((x.toUInt64 >>> t).toInt64).toInt32).toInt8.toBitVec.signExtend 32).signExtend 8).signExtend 32) = _
  rw [e]
  congr 1
  rw [BitVec.signExtend_eq_setWidth_of_le _ (by omega)]
  apply BitVec.eq_of_getLsbD_eq
  intro i hi
  rw [BitVec.getLsbD_setWidth, BitVec.getLsbD_signExtend, if_pos hi]
  simp [hi, show i < 32 by omega]
theorem byte_rel (b : BitVec 8) : (-128 ≤ b.toInt ∧ b.toInt ≤ 127) ∧ (b.toNat : Int) = b.toInt % 256 := by
  have h := b.isLt
  have e := BitVec.toInt_eq_toNat_cond b
  split at e <;> omega
def byteI (x : Int64) (i : Int) : Int := (x.toBitVec.extractLsb' (8 * i.toNat) 8).toInt
theorem byteI_b (x : Int64) (i : Int) : -128 ≤ byteI x i ∧ byteI x i ≤ 127 := (byte_rel _).1
theorem shC : ∀ k : Fin 8, ((zI (8 * (k.val : Int))).toInt64.toUInt64 &&& Int64.toUInt64 63).toBitVec % 64 = BitVec.ofNat 64 (8 * k.val) := by decide +kernel
theorem shM : ∀ k : Fin 8, ((zI (8 * (k.val : Int))).toInt64 &&& 63).toBitVec.smod 64 = BitVec.ofNat 64 (8 * k.val) := by decide +kernel
theorem byteC (x : Int64) {i : Int} (hi : 0 ≤ i ∧ i < 8) : (((((x.toUInt64 >>> ((zI (8 * i)).toInt64.toUInt64 &&& Int64.toUInt64 63)).toInt64).toInt32).toInt8.toInt32).toInt8.toInt32) = zI (byteI x i) := by
  have b := byteI_b x i
  have w := shC ⟨i.toNat, by omega⟩
  simp only [show ((i.toNat : Nat) : Int) = i by omega] at w
  have e := byte_c x (8 * i.toNat) (by omega) _ w
  apply Int32.toInt_inj.mp
  rw [zI_toInt (zR_s (by omega))]
  show BitVec.toInt _ = _
  rw [e, BitVec.toInt_signExtend_of_le (by omega)]
  rfl
theorem byteM (x : Int64) {i : Int} (hi : 0 ≤ i ∧ i < 8) : ((x >>> ((zI (8 * i)).toInt64 &&& 63)) &&& (Int64.ofNat 255)).toInt32 = zI (byteI x i % 256) := by
  have b := byteI_b x i
  have w := shM ⟨i.toNat, by omega⟩
  simp only [show ((i.toNat : Nat) : Int) = i by omega] at w
  have e := byte_m x (8 * i.toNat) (by omega) _ w
  have r := (byte_rel (x.toBitVec.extractLsb' (8 * i.toNat) 8)).2
  have l := (x.toBitVec.extractLsb' (8 * i.toNat) 8).isLt
  apply Int32.toInt_inj.mp
  rw [zI_toInt (zR_s (by omega))]
  show BitVec.toInt _ = _
  rw [e, BitVec.toInt_eq_toNat_of_lt (by rw [BitVec.toNat_setWidth]; omega), BitVec.toNat_setWidth, Nat.mod_eq_of_lt (by omega), r]
  rfl
theorem c_added_l (d : Nat) (L : Int64) {N T : Int} (hN : 1 ≤ N ∧ N ≤ 8) (hT : 0 ≤ T ∧ T + N ≤ 240) : ∀ (m : Nat) (i : Int), 0 ≤ i → i + m = N → ∀ z : zH, zRR z → z 55 1 = T → ∀ n, m < n → xw (r_X9_isAdded d n 21 [some (xR 25 55), some (xL L), none, some (xI (zI N)), some (xI (zI i))] [] (hI z)) (fun r z' => r = 1 ∧ z' 55 1 = T + N ∧ (∀ j, z' 56 j = if T + i ≤ j ∧ j < T + N then byteI L (j - T) else z 56 j) ∧ fr [55, 56] z z') := by
  have h0r : zR 0 := zR_s (by omega)
  have Nr : zR N := zR_s (by omega)
  intro m
  induction m with
  | zero =>
    intro i i0 i1 z hz hT1 n hn
    obtain ⟨n, rfl⟩ := Nat.exists_eq_succ_of_ne_zero (show n ≠ 0 by omega)
    have y : zRR (zup z 55 1 (T + N)) := zRR_up hz _ _ (zR_s (by omega))
    rw [l_X9_isAdded_21]
    rw [if_neg (by rw [zI_lt (zR_s (by omega)) Nr]; omega)]
    refine xw_eq (r := 1) (z := zup z 55 1 (T + N)) ?_ (zR_s (by omega)) y ⟨rfl, ?_, fun j => ?_, fr_up (fr_rf _ _) _ _ rfl⟩
    · simp only [zLit, hI_fs, hT1, zI_add, hI_us]
    · rw [zup_at, if_pos ⟨rfl, rfl⟩]
    · rw [zup_ne _ _ _ (by decide), if_neg (by omega)]
  | succ m ih =>
    intro i i0 i1 z hz hT1 n hn
    obtain ⟨n, rfl⟩ := Nat.exists_eq_succ_of_ne_zero (show n ≠ 0 by omega)
    have kr : zR (T + i) := zR_s (by omega)
    have bk : ¬ (zI (T + i) < zI 0 ∨ 240 ≤ (zI (T + i)).toNatClampNeg) := by rw [zI_lt kr h0r, zI_nat kr]; omega
    have bb := byteI_b L i
    have y : zRR (zup z 56 (T + i) (byteI L i)) := zRR_up hz _ _ (zR_s (by omega))
    rw [l_X9_isAdded_21]
    rw [if_pos (by rw [zI_lt (zR_s (by omega)) Nr]; omega)]
    simp only [zLit, hI_fs, hT1, zI_add, zI_mul, lenX_s, if_neg bk]
    rw [byteC L ⟨i0, by omega⟩, zI_nat kr, zst (by omega)]
    refine xw_m (ih (i + 1) (by omega) (by omega) _ y (by rw [zup_ne _ _ _ (by decide)]; exact hT1) n (by omega)) ?_
    intro r z1 _ _ ⟨e1, e2, e3, f⟩
    refine ⟨e1, e2, fun j => ?_, fr_tr (fr_up (fr_rf [55, 56] _) _ _ rfl) f rfl⟩
    rw [e3, zup_at]
    by_cases q : j = T + i
    · subst q
      rw [if_neg (by omega), if_pos ⟨rfl, rfl⟩, if_pos (by omega), show T + i - T = i by omega]
    · by_cases w : T + (i + 1) ≤ j ∧ j < T + N
      · rw [if_pos w, if_pos (by omega)]
      · rw [if_neg w, if_neg (fun x => q x.2), if_neg (by omega)]
theorem m_feed_l (d : Nat) (L : Int64) {N T : Int} (hN : 1 ≤ N ∧ N ≤ 8) (hT : 0 ≤ T ∧ T + N ≤ 240) : ∀ (m : Nat) (i : Int), 0 ≤ i → i + m = N → ∀ z : zH, zRR z → z 100 4 = T + i → ∀ n, m < n → xw (r_X12_feed d n 30 [some (xR 28 100), some (xL L), none, some (xI (zI N)), some (xI (zI i))] [] (hI z)) (fun r z' => r = T + N ∧ z' 100 4 = T + N ∧ (∀ j, z' 103 j = if T + i ≤ j ∧ j < T + N then byteI L (j - T) % 256 else z 103 j) ∧ fr [100, 103] z z' ∧ ff [4] z z') := by
  have h0r : zR 0 := zR_s (by omega)
  have Nr : zR N := zR_s (by omega)
  intro m
  induction m with
  | zero =>
    intro i i0 i1 z hz hT1 n hn
    obtain ⟨n, rfl⟩ := Nat.exists_eq_succ_of_ne_zero (show n ≠ 0 by omega)
    rw [l_X12_feed_30]
    rw [if_neg (by rw [zI_lt (zR_s (by omega)) Nr]; omega)]
    simp only [hI_fs, hT1]
    refine xw_ret (zR_s (by omega)) hz ⟨by omega, by omega, fun j => ?_, fr_rf _ _, ff_rf _ _⟩
    rw [if_neg (by omega)]
  | succ m ih =>
    intro i i0 i1 z hz hT1 n hn
    obtain ⟨n, rfl⟩ := Nat.exists_eq_succ_of_ne_zero (show n ≠ 0 by omega)
    have kr : zR (T + i) := zR_s (by omega)
    have bk : ¬ (zI (T + i) < zI 0 ∨ 240 ≤ (zI (T + i)).toNatClampNeg) := by rw [zI_lt kr h0r, zI_nat kr]; omega
    have bb := byteI_b L i
    obtain ⟨H, dH⟩ : ∃ H, H = zup (zup z 103 (T + i) (byteI L i % 256)) 100 4 (T + i + 1) := ⟨_, rfl⟩
    have y : zRR H := by rw [dH]; exact zRR_up (zRR_up hz _ _ (zR_s (by omega))) _ _ (zR_s (by omega))
    have h4 : H 100 4 = T + (i + 1) := by rw [dH, zup_at, if_pos ⟨rfl, rfl⟩]; omega
    rw [l_X12_feed_30]
    rw [if_pos (by rw [zI_lt (zR_s (by omega)) Nr]; omega)]
    simp only [zLit, hI_fs, hT1, zI_add, zI_mul, lenX_s, if_neg bk]
    rw [byteM L ⟨i0, by omega⟩, zI_nat kr, zst (by omega)]
    simp only [hI_us]
    rw [← dH]
    refine xw_m (ih (i + 1) (by omega) (by omega) H y h4 n (by omega)) ?_
    intro r z1 _ _ ⟨e1, e2, e3, f, g⟩
    have fH : fr [100, 103] z H := by rw [dH]; exact fr_up (fr_up (fr_rf _ _) _ _ rfl) _ _ rfl
    have gH : ff [4] z H := by rw [dH]; exact ff_up (ff_ne (ff_rf _ _) _ _ (by decide)) _ rfl
    refine ⟨e1, e2, fun j => ?_, fr_tr fH f rfl, ff_tr gH g rfl⟩
    rw [e3, dH, zup_ne _ _ _ (by decide), zup_at]
    by_cases q : j = T + i
    · subst q
      rw [if_neg (by omega), if_pos ⟨rfl, rfl⟩, if_pos (by omega), show T + i - T = i by omega]
    · by_cases w : T + (i + 1) ≤ j ∧ j < T + N
      · rw [if_pos w, if_pos (by omega)]
      · rw [if_neg w, if_neg (fun x => q x.2), if_neg (by omega)]
theorem Inv_feed {z z' : zH} (h : Inv z) (y : zRR z') (f : fr [55, 56, 100, 103] z z') (g : ff [4] z z') (hp : PTape z') : Inv z' := by
  obtain ⟨hz, hW, hK, hT, hO, hS, hF, hC⟩ := h
  have lo : ∀ o, o < 55 → z' o = z o := fun o ho => f o ((by decide : ∀ o, o < 55 → [55, 56, 100, 103].elem o = false) o ho)
  exact ⟨y, PWorld_t hW (fun i i0 i1 => lo _ (by omega)) (fun k _ => by rw [f 101 rfl]), PKept_t hK (by rw [lo 0 (by omega)]) (g 2 rfl) (fun i i0 i1 => lo _ (by omega)) (f 102 rfl), hp, PRows_t hO (f 68 rfl) (by rw [lo 47 (by omega)]) (by rw [lo 47 (by omega)]) (g 31 rfl) (f 69 rfl) (f 115 rfl), PSheets_t hS (fun i hi => f _ ((by decide : ∀ i, i < 8 → [55, 56, 100, 103].elem (73 + i) = false) i hi)) (f 117 rfl) (f 118 rfl) (f 119 rfl), PShelves_t hF (f 70 rfl) (f 71 rfl) (f 120 rfl) (f 121 rfl) (f 122 rfl), PTrace_t hC (by rw [f 66 rfl]) (g 40 rfl) (f 67 rfl) (f 123 rfl)⟩
theorem k_feed {z : zH} (h : Inv z) {n : Int} (L : Int64) (hn : zR n) : two 120 208 [xL L, xI (zI n)] z := by
  have hI0 := h
  obtain ⟨hz, hW, hK, hT, hO, hS, hF, hCt⟩ := h
  obtain ⟨t1, t2, t3⟩ := hT
  have h0r : zR 0 := zR_s (by omega)
  have r1 : zR 1 := zR_s (by omega)
  have r8 : zR 8 := zR_s (by omega)
  have r240 : zR 240 := zR_s (by omega)
  have n0 : ¬ zI 1 = zI 0 := by decide
  by_cases q : 1 ≤ n ∧ n ≤ 8
  · have sr : zR (z 100 4 + n) := zR_s (by omega)
    by_cases w : z 100 4 + n ≤ 240
    · refine xw_m (P := fun r z1 => r = z 100 4 + n ∧ z1 55 1 = z 100 4 + n ∧ (∀ j, z1 56 j = if z 100 4 + 0 ≤ j ∧ j < z 100 4 + n then byteI L (j - z 100 4) else z 56 j) ∧ fr [55, 56] z z1) ?_ ?_
      · rw [e_X11_feed]
        simp only [zLit, c_within _ hn r1 r8, xbd_n, zB_0]
        rw [if_neg (fun x => x q), e_X9_isAdded, show xF = 999999 + 1 from rfl, l_X9_isAdded_0]
        simp only [zLit, hI_fs, t1, zI_sub, zI_add]
        rw [if_neg (by rw [zI_lt hn h0r]; omega), if_neg (by rw [zI_lt (zR_s (by omega)) hn]; omega)]
        refine xw_k (c_added_l _ L q ⟨t2.1, w⟩ n.toNat 0 (by omega) (by omega) z hz t1 999999 (by omega)) ?_
        intro r z1 hr hz1 ⟨e1, e2, e3, f⟩
        rw [e1, if_neg n0]
        simp only [hI_fs, e2]
        exact xw_ret sr hz1 ⟨rfl, e2, e3, f⟩
      · intro r z1 hr hz1 ⟨e, e2, e3, f⟩
        have k4 : z1 100 4 = z 100 4 := by rw [f 100 rfl]
        rw [e_X12_feed, show xF = 999999 + 1 from rfl, l_X12_feed_0]
        simp only [zLit, m_within _ hn r1 r8, xbd_n, zB_0]
        rw [if_neg (fun x => x q)]
        simp only [hI_fs, k4, zI_add]
        rw [if_neg (by rw [zI_lt r240 sr]; omega)]
        refine xw_m (m_feed_l _ L q ⟨t2.1, w⟩ n.toNat 0 (by omega) (by omega) z1 hz1 (by omega) 999999 (by omega)) ?_
        intro r2 z2 hr2 hz2 ⟨x1, x2, x3, f2, g2⟩
        refine ⟨by omega, Inv_feed hI0 hz2 (fr_tr (fr_mono (T := [55, 56, 100, 103]) f rfl) (fr_mono f2 rfl) rfl) (fun j hj => by rw [g2 j hj, f 100 rfl]) ⟨by rw [f2 55 rfl, e2, x2], by rw [x2]; omega, fun i i0 i1 => ?_⟩⟩
        rw [x2] at i1
        rw [f2 56 rfl, e3, x3]
        by_cases p : z 100 4 + 0 ≤ i ∧ i < z 100 4 + n
        · rw [if_pos p, if_pos p]
          exact ⟨byteI_b _ _, rfl⟩
        · rw [if_neg p, if_neg p, f 103 rfl]
          exact t3 i i0 (by omega)
    · refine two_ro hI0 (-2) (by simp only [zR]; omega) ?_ ?_
      · rw [e_X11_feed]
        simp only [zLit, c_within _ hn r1 r8, xbd_n, zB_0]
        rw [if_neg (fun x => x q), e_X9_isAdded, show xF = 999999 + 1 from rfl, l_X9_isAdded_0]
        simp only [zLit, hI_fs, t1, zI_sub, zI_add]
        rw [if_neg (by rw [zI_lt hn h0r]; omega), if_pos (by rw [zI_lt (zR_s (by omega)) hn]; omega)]
        simp only [xbd_n, zI_neg]
        rw [if_pos trivial]
      · rw [e_X12_feed, show xF = 999999 + 1 from rfl, l_X12_feed_0]
        simp only [zLit, m_within _ hn r1 r8, xbd_n, zB_0]
        rw [if_neg (fun x => x q)]
        simp only [hI_fs, zI_add]
        rw [if_pos (by rw [zI_lt r240 sr]; omega), zI_neg]
  · refine two_ro hI0 (-1) (by simp only [zR]; omega) ?_ ?_
    · rw [e_X11_feed]
      simp only [zLit, c_within _ hn r1 r8, xbd_n, zB_0]
      rw [if_pos q, zI_neg]
    · rw [e_X12_feed, show xF = 999999 + 1 from rfl, l_X12_feed_0]
      simp only [zLit, m_within _ hn r1 r8, xbd_n, zB_0]
      rw [if_pos q, zI_neg]
