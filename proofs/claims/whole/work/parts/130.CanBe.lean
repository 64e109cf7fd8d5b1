/-! PURE, part 60: ENDS that CAN BE, as bits; the BEST END -/
def spCan (v : Int → Int) (c0 : crft) (e : Int) : Prop := ∃ c, Rch v c0 c ∧ Tg v e c
noncomputable def spCanB (v : Int → Int) (c0 : crft) (e : Int) : Bool := @decide (spCan v c0 e) (Classical.propDecidable _)
theorem spCanB_i (v : Int → Int) (c0 : crft) (e : Int) : spCanB v c0 e = true ↔ spCan v c0 e := by
  unfold spCanB
  exact @decide_eq_true_iff _ (Classical.propDecidable _)
theorem spCan_g {v : Int → Int} (hL : LandI v) {c0 : crft} (h0 : okC v c0) {e g : Int} (h : GR v c0 (Tg v e) g) : (spCan v c0 e ↔ 0 ≤ g) := by
  constructor
  · intro ⟨c, c1, c2⟩
    have := h.2 c c1 c2
    have := (Rch_ok hL h0 c1).2.2.2
    omega
  · intro g0
    obtain ⟨c, c1, c2, _⟩ := h.1 g0
    exact ⟨c, c1, c2⟩
def spSet (P : Int → Bool) : Nat → Int → Int → Int
  | 0, _, s => s
  | m + 1, e, s => if P e = true then spSet P m (e + 1) (s + 2 ^ e.toNat) else spSet P m (e + 1) s
theorem orL : ∀ i : Fin 8, ∀ s : Fin 128, s.val < 2 ^ i.val → zI (s.val : Int) ||| zI (2 ^ i.val) = zI ((s.val : Int) + 2 ^ i.val) := by decide +kernel
theorem or_I {s i : Int} (hi : 0 ≤ i ∧ i < 8) (hs : 0 ≤ s ∧ s < 2 ^ i.toNat) : zI s ||| zI (2 ^ i.toNat) = zI (s + 2 ^ i.toNat) := by
  have p := pow_b (n := i.toNat) (by omega)
  have p2 : (2 : Int) ^ i.toNat ≤ 128 := by
    have : ∀ i : Fin 8, (2 : Int) ^ i.val ≤ 128 := by decide
    exact this ⟨i.toNat, by omega⟩
  have h := orL ⟨i.toNat, by omega⟩ ⟨s.toNat, by omega⟩ (by
    show s.toNat < 2 ^ i.toNat
    have : ((2 ^ i.toNat : Nat) : Int) = (2 : Int) ^ i.toNat := by simp
    omega)
  simp only [Int.toNat_of_nonneg hs.1] at h
  exact h
theorem pow_s {e : Int} (he : 0 ≤ e) : (2 : Int) ^ (e + 1).toNat = 2 * 2 ^ e.toNat := by
  rw [show (e + 1).toNat = e.toNat + 1 by omega, Int.pow_succ]
  omega
theorem spSet_b (P : Int → Bool) : ∀ (m : Nat) (e s : Int), 0 ≤ e → (0 ≤ s ∧ s < 2 ^ e.toNat) → ∃ t, 0 ≤ t ∧ spSet P m e s = s + 2 ^ e.toNat * t ∧ spSet P m e s < 2 ^ (e.toNat + m) := by
  intro m
  induction m with
  | zero => intro e s he hs; exact ⟨0, by omega, by unfold spSet; simp, by unfold spSet; exact hs.2⟩
  | succ m ih =>
    intro e s he hs
    have ps := pow_s he
    have en : (e + 1).toNat + m = e.toNat + (m + 1) := by omega
    unfold spSet
    by_cases q : P e = true
    · rw [if_pos q]
      obtain ⟨t, t0, t1, t2⟩ := ih (e + 1) (s + 2 ^ e.toNat) (by omega) (by rw [ps]; omega)
      refine ⟨1 + 2 * t, by omega, ?_, by rw [← en]; exact t2⟩
      rw [t1, ps, Int.mul_add, Int.mul_comm 2 (2 ^ e.toNat), Int.mul_assoc]
      omega
    · rw [if_neg q]
      obtain ⟨t, t0, t1, t2⟩ := ih (e + 1) s (by omega) (by rw [ps]; omega)
      refine ⟨2 * t, by omega, ?_, by rw [← en]; exact t2⟩
      rw [t1, ps, Int.mul_comm 2 (2 ^ e.toNat), Int.mul_assoc]
theorem spSet_bit (P : Int → Bool) {m : Nat} {e s : Int} (he : 0 ≤ e) (hs : 0 ≤ s ∧ s < 2 ^ e.toNat) : spBit (spSet P (m + 1) e s) e = if P e = true then 1 else 0 := by
  have ps := pow_s he
  have p0 : 0 < (2 : Int) ^ e.toNat := by omega
  have hd : s / 2 ^ e.toNat = 0 := Int.ediv_eq_zero_of_lt hs.1 hs.2
  unfold spSet spBit
  by_cases q : P e = true
  · rw [if_pos q, if_pos q]
    obtain ⟨t, t0, t1, -⟩ := spSet_b P m (e + 1) (s + 2 ^ e.toNat) (by omega) (by rw [ps]; omega)
    rw [t1, ps, show s + 2 ^ e.toNat + 2 * 2 ^ e.toNat * t = s + 2 ^ e.toNat * (1 + 2 * t) by rw [Int.mul_add, Int.mul_comm 2 (2 ^ e.toNat), Int.mul_assoc]; omega, Int.add_mul_ediv_left _ _ (by omega), hd]
    omega
  · rw [if_neg q, if_neg q]
    obtain ⟨t, t0, t1, -⟩ := spSet_b P m (e + 1) s (by omega) (by rw [ps]; omega)
    rw [t1, ps, show s + 2 * 2 ^ e.toNat * t = s + 2 ^ e.toNat * (2 * t) by rw [Int.mul_comm 2 (2 ^ e.toNat), Int.mul_assoc], Int.add_mul_ediv_left _ _ (by omega), hd]
    omega
theorem c_can_l (d : Nat) {v : Int → Int} (hv : ∀ k, zR (v k)) (hL : LandI v) {c0 : crft} (ok0 : okC v c0) {z0 z : zH} (hz : zRR z) (hE : PEnds 7 z v) (hP : PostS v c0 (-3) z0 z) : ∀ (m : Nat) (e s : Int), 0 ≤ e → e + m = v 7 → (0 ≤ s ∧ s < 2 ^ e.toNat) → ∀ n, m < n → xw (r_X11_can (d + 5) n 24 [some (xR 27 0), some (xI (zI s)), some (xI (zI e))] [] (hI z)) (fun r z' => z' = z ∧ r = spSet (spCanB v c0) m e s) := by
  have h0r : zR 0 := zR_s (by omega)
  have r3 : z 7 3 = v 7 := hE.1.2.2.1
  have b7 : 0 ≤ v 7 ∧ v 7 ≤ 8 := hE.1.2.2.2.1
  intro m
  induction m with
  | zero =>
    intro e s e0 e1 hs n hn
    obtain ⟨n, rfl⟩ := Nat.exists_eq_succ_of_ne_zero (show n ≠ 0 by omega)
    have p := pow_b (n := e.toNat) (by omega)
    rw [l_X11_can_24]
    simp only [zLit, hI_fs, r3]
    rw [if_neg (by rw [zI_lt (zR_s (by omega)) (hv _)]; omega)]
    exact xw_ret (zR_s (by omega)) hz ⟨rfl, rfl⟩
  | succ m ih =>
    intro e s e0 e1 hs n hn
    obtain ⟨n, rfl⟩ := Nat.exists_eq_succ_of_ne_zero (show n ≠ 0 by omega)
    have ps := pow_s e0
    rw [l_X11_can_24]
    simp only [zLit, hI_fs, r3, zI_add]
    rw [if_pos (by rw [zI_lt (zR_s (by omega)) (hv _)]; omega)]
    refine xw_k (c_gg _ hv hL ok0 hz hE (e := e) ⟨e0, by omega⟩ (Or.inr rfl) hP) ?_
    intro g z1 hr hz1 ⟨ez, hg⟩
    subst ez
    have cg := spCan_g hL ok0 hg
    unfold spSet
    by_cases w : g < 0
    · rw [if_pos (by rw [zI_lt hr h0r]; exact w), if_neg (by rw [spCanB_i, cg]; omega)]
      exact ih (e + 1) s (by omega) (by omega) (by rw [ps]; omega) n (by omega)
    · rw [if_neg (by rw [zI_lt hr h0r]; exact w), if_pos (by rw [spCanB_i, cg]; omega), pow_I ⟨e0, by omega⟩, or_I ⟨e0, by omega⟩ hs]
      exact ih (e + 1) _ (by omega) (by omega) (by rw [ps]; omega) n (by omega)
theorem m_can_l (d : Nat) {v : Int → Int} (hL : LandI v) {c0 : crft} (ok0 : okC v c0) {z0 z zE : zH} (hz : zRR z) (hE : PEnds 7 zE v) (h101 : z 101 = v) (hP : PostM v c0 z0 z) : ∀ (m : Nat) (e s : Int), 0 ≤ e → e + m = v 7 → (0 ≤ s ∧ s < 2 ^ e.toNat) → ∀ n, m < n → xw (r_X12_canBe (d + 3) n 12 [some (xR 28 100), some (xI (zI s)), some (xI (zI e))] [] (hI z)) (fun r z' => z' = z ∧ r = spSet (spCanB v c0) m e s) := by
  have h0r : zR 0 := zR_s (by omega)
  have h7r : zR 7 := zR_s (by omega)
  have b7 : 0 ≤ v 7 ∧ v 7 ≤ 8 := hE.1.2.2.2.1
  have e7 : hI z 101 (zI 7).toNatClampNeg = zI (v 7) := by rw [zI_nat h7r, zld (by omega), h101]
  have b7' := bnd (a := 7) (n := 572) (by omega) (by omega) (by omega)
  intro m
  induction m with
  | zero =>
    intro e s e0 e1 hs n hn
    obtain ⟨n, rfl⟩ := Nat.exists_eq_succ_of_ne_zero (show n ≠ 0 by omega)
    have p := pow_b (n := e.toNat) (by omega)
    rw [l_X12_canBe_12]
    simp only [zLit, lenX_s, if_neg b7', e7]
    rw [if_neg (by rw [zI_lt (zR_s (by omega)) (zR_s (by omega))]; omega)]
    exact xw_ret (zR_s (by omega)) hz ⟨rfl, rfl⟩
  | succ m ih =>
    intro e s e0 e1 hs n hn
    obtain ⟨n, rfl⟩ := Nat.exists_eq_succ_of_ne_zero (show n ≠ 0 by omega)
    have ps := pow_s e0
    rw [l_X12_canBe_12]
    simp only [zLit, lenX_s, if_neg b7', e7, zI_add]
    rw [if_pos (by rw [zI_lt (zR_s (by omega)) (zR_s (by omega))]; omega)]
    refine xw_k (m_gg _ hL ok0 hz hE h101 (e := e) ⟨e0, by omega⟩ hP) ?_
    intro g z1 hr hz1 ⟨ez, hg⟩
    subst ez
    have cg := spCan_g hL ok0 hg
    unfold spSet
    by_cases w : g < 0
    · rw [if_pos (by rw [zI_lt hr h0r]; exact w), if_neg (by rw [spCanB_i, cg]; omega), show zI s ||| zI 0 = zI s from Int32.or_zero]
      exact ih (e + 1) s (by omega) (by omega) (by rw [ps]; omega) n (by omega)
    · rw [if_neg (by rw [zI_lt hr h0r]; exact w), if_pos (by rw [spCanB_i, cg]; omega), pow_I ⟨e0, by omega⟩, or_I ⟨e0, by omega⟩ hs]
      exact ih (e + 1) _ (by omega) (by omega) (by rw [ps]; omega) n (by omega)
theorem m_canBe (d : Nat) {z : zH} (h : Inv z) : xw (cM (d + 5) 186 [xR 28 100] (hI z)) (fun r z' => r = spSet (spCanB (z 101) (crV (z 101))) (z 101 7).toNat 0 0 ∧ Inv z' ∧ z' 101 = z 101 ∧ fr [100, 104, 105, 106, 107] z z') := by
  have hI0 := h
  obtain ⟨hz, hW, hK, hT, hO, hSh, hF, hCt⟩ := h
  have hL := hW.1.2
  have hE : PEnds 7 z (z 101) := hW.2.2.1
  have ok0 : okC (z 101) (crV (z 101)) := hW.2.1.2.2.2.2.2.1
  have b7 : 0 ≤ z 101 7 ∧ z 101 7 ≤ 8 := hE.1.2.2.2.1
  rw [e_X12_canBe, show xF = 999999 + 1 from rfl, l_X12_canBe_0]
  refine xw_k (m_beginW _ hz) ?_
  intro r2 z2 hr2 hz2 ⟨c2, f2, g2⟩
  have e2 : z2 101 = z 101 := f2 101 rfl
  have c2' : crM z2 = crV (z 101) := c2
  refine xw_k (m_reach _ hz2 (by rw [e2]; exact hL) (by rw [e2, c2']; exact ok0)) ?_
  intro r3 z3 hr3 hz3 hP
  have f3 := hP.2.2.2
  rw [e2, c2'] at hP
  have e3 : z3 101 = z 101 := (f3.1 101 rfl).trans e2
  have inv3 : Inv z3 := Inv_scrM hI0 hz3 (fr_tr (fr_mono f2 (T := scrM) rfl) (fr_mono f3.1 rfl) rfl) (ff_tr (ff_mono g2 (T := [5, 6, 7, 8, 13]) rfl) f3.2 rfl) rfl rfl rfl rfl
  simp only [zLit]
  refine xw_m (m_can_l (d + 1) hL ok0 hz3 hE e3 hP (z 101 7).toNat 0 0 (by omega) (by omega) ⟨by omega, by decide⟩ 999999 (by omega)) ?_
  intro r z4 _ _ ⟨e4, er⟩
  subst e4
  exact ⟨er, inv3, e3, fr_tr (fr_mono f2 (T := [100, 104, 105, 106, 107]) rfl) f3.1 rfl⟩
theorem k_can {z : zH} (h : Inv z) : two 110 187 [] z := by
  have hI0 := h
  obtain ⟨hz, hW, hK, hT, hO, hSh, hF, hCt⟩ := h
  have hL := hW.1.2
  have hR := RLand_R hW.1.1
  have hC : PCraft 6 z (z 101) := hW.2.1
  have hE : PEnds 7 z (z 101) := hW.2.2.1
  have hcr := PCraft_cr hC
  have ok0 : okC (z 101) (crV (z 101)) := hC.2.2.2.2.2.1
  have b7 : 0 ≤ z 101 7 ∧ z 101 7 ≤ 8 := hE.1.2.2.2.1
  have hv : ∀ k, zR (z 101 k) := hz 101
  refine xw_m (P := fun r z1 => r = spSet (spCanB (z 101) (crV (z 101))) (z 101 7).toNat 0 0 ∧ Inv z1 ∧ z1 101 = z 101) ?_ ?_
  · rw [e_X11_can, show xF = 999999 + 1 from rfl, l_X11_can_0]
    simp only [zLit, zI_neg]
    refine xw_k (c_search _ hv hL hz hR hE (o := 6) ⟨by decide, by decide⟩ (by rw [hcr]; exact ok0) (g := -3) (zR_s (by omega))) ?_
    intro r1 z1 hr1 hz1 hP
    have f : fr [51, 52, 53, 54] z z1 := hP.2.2.2
    rw [hcr] at hP
    have hE1 : PEnds 7 z1 (z 101) := PEnds_t hE (f 7 rfl) (f 8 rfl) (fun _ _ => rfl)
    have inv1 : Inv z1 := Inv_scrC hI0 hz1 (fr_mono f rfl)
    refine xw_m (c_can_l 54 hv hL ok0 hz1 hE1 hP (z 101 7).toNat 0 0 (by omega) (by omega) ⟨by omega, by decide⟩ 999999 (by omega)) ?_
    intro r z2 _ _ ⟨e2, er⟩
    subst e2
    exact ⟨er, inv1, f 101 rfl⟩
  · intro r z1 hr hz1 ⟨er, inv1, e1⟩
    rw [e_X12_can]
    refine xw_k (m_canBe 54 inv1) ?_
    intro r2 z2 hr2 hz2 ⟨er2, inv2, e2, _⟩
    rw [e1] at er2
    exact xw_ret hr2 hz2 ⟨by rw [er2, er], inv2⟩
