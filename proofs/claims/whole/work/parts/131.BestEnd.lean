/-! PURE, part 61: the BEST END -/
def cstE (v : Int → Int) (e : Int) : Int := v (156 + 5 * e) + v (88 + v (153 + 5 * e))
theorem cstE_b {z : zH} {v : Int → Int} (hL : LandI v) (hE : PEnds 7 z v) {e : Int} (he : 0 ≤ e ∧ e < v 7) : 0 ≤ cstE v e ∧ cstE v e ≤ 1098 := by
  have hc := ends_c hL hE he
  have hh := hL.2.2.2.1 _ hc.1 hc.2
  have := (hE.2 e he.1 he.2).2.2.2
  unfold cstE
  omega
theorem c_costsE (d : Nat) {z : zH} (hz : zRR z) {v : Int → Int} (hR : LandR z v) (hL : LandI v) (hE : PEnds 7 z v) {e : Int} (he : 0 ≤ e ∧ e < v 7) : cM (d + 3) 91 [xR 26 1, xI (zI e), xI (zI (v (153 + 5 * e)))] (hI z) = some (zI (cstE v e), hI z) := by
  have hc := ends_c hL hE he
  have r3 : z 7 3 = v 7 := hE.1.2.2.1
  have h7 := hE.1.2.2.2.1
  have ch := fun d => c_houses d hR (c := v (153 + 5 * e)) hc
  have c1 := fun d => c_rHas d hz (o := 7) (i := e) (zR_s (by omega))
  have c2 := fun d => c_endN d hz hE (e := e) (f := 4) he (by omega)
  simp only [show 152 + 5 * e + 4 = 156 + 5 * e by omega] at c2
  rw [e_X10_costsDown]
  simp only [zLit, Nat.reduceAdd, c1, xbd_n, zB_0]
  rw [if_neg (by omega)]
  simp only [c2, xbd_n]
  simp only [ch, xbd_n, zI_add]
  rfl
theorem m_costAt (d : Nat) {z zE : zH} {v : Int → Int} (hL : LandI v) (hE : PEnds 7 zE v) (h101 : z 101 = v) {e : Int} (he : 0 ≤ e ∧ e < v 7) : cM (d + 2) 188 [xR 28 100, xI (zI e)] (hI z) = some (zI (cstE v e), hI z) := by
  have hc := ends_c hL hE he
  have h7 := hE.1.2.2.2.1
  have m1 := fun d => m_end d (z := z) (e := e) (f := 4) (by omega) (by omega)
  have m2 := fun d => m_end d (z := z) (e := e) (f := 1) (by omega) (by omega)
  rw [show 152 + 5 * e + 4 = 156 + 5 * e by omega, h101] at m1
  rw [show 152 + 5 * e + 1 = 153 + 5 * e by omega, h101] at m2
  have cr : zR (88 + v (153 + 5 * e)) := zR_s (by omega)
  have bc := bnd (a := 88 + v (153 + 5 * e)) (n := 572) (by omega) (by omega) (by omega)
  have ec : hI z 101 (zI (88 + v (153 + 5 * e))).toNatClampNeg = zI (v (88 + v (153 + 5 * e))) := by rw [zI_nat cr, zld (by omega), h101]
  rw [e_X12_costAt]
  simp only [zLit, m1, xbd_n]
  simp only [m2, xbd_n, zI_add, lenX_s, if_neg bc, ec]
  rfl
def spBE (P : Int → Bool) (f : Int → Int) : Nat → Int → Int → Int
  | 0, _, b => b
  | m + 1, e, b => if P e = true ∧ (b < 0 ∨ f e < f b) then spBE P f m (e + 1) e else spBE P f m (e + 1) b
theorem c_best_l (d : Nat) {v : Int → Int} (hv : ∀ k, zR (v k)) (hL : LandI v) {c0 : crft} (ok0 : okC v c0) {z0 z : zH} (hz : zRR z) (hR : LandR z v) (hE : PEnds 7 z v) (hP : PostS v c0 (-3) z0 z) : ∀ (m : Nat) (e b l : Int), 0 ≤ e → e + m = v 7 → (b = -3 ∨ (0 ≤ b ∧ b < e ∧ l = cstE v b)) → zR l → ∀ n, m < n → xw (r_X11_bestEnd (d + 5) n 27 [some (xR 27 0), some (xI (zI b)), some (xI (zI l)), some (xI (zI e)), none] [] (hI z)) (fun r z' => z' = z ∧ r = spBE (spCanB v c0) (cstE v) m e b) := by
  have h0r : zR 0 := zR_s (by omega)
  have r3 : z 7 3 = v 7 := hE.1.2.2.1
  have b7 : 0 ≤ v 7 ∧ v 7 ≤ 8 := hE.1.2.2.2.1
  intro m
  induction m with
  | zero =>
    intro e b l e0 e1 hb hl n hn
    obtain ⟨n, rfl⟩ := Nat.exists_eq_succ_of_ne_zero (show n ≠ 0 by omega)
    rw [l_X11_bestEnd_27]
    simp only [zLit, hI_fs, r3]
    rw [if_neg (by rw [zI_lt (zR_s (by omega)) (hv _)]; omega)]
    exact xw_ret (zR_s (by omega)) hz ⟨rfl, rfl⟩
  | succ m ih =>
    intro e b l e0 e1 hb hl n hn
    obtain ⟨n, rfl⟩ := Nat.exists_eq_succ_of_ne_zero (show n ≠ 0 by omega)
    have he : 0 ≤ e ∧ e < v 7 := ⟨e0, by omega⟩
    have cb := cstE_b hL hE he
    rw [l_X11_bestEnd_27]
    simp only [zLit, hI_fs, r3, zI_add, zI_neg]
    rw [if_pos (by rw [zI_lt (zR_s (by omega)) (hv _)]; omega)]
    refine xw_k (c_gg _ hv hL ok0 hz hE (e := e) he (Or.inr rfl) hP) ?_
    intro g z1 hr hz1 ⟨ez, hg⟩
    subst ez
    have cg := spCan_g hL ok0 hg
    unfold spBE
    by_cases w : g < 0
    · rw [if_pos (by rw [zI_lt hr h0r]; exact w), if_neg (fun x => by have y := x.1; rw [spCanB_i, cg] at y; omega)]
      exact ih (e + 1) b l (by omega) (by omega) (by omega) hl n (by omega)
    · have ct : spCanB v c0 e = true := by rw [spCanB_i, cg]; omega
      have cn := fun d => c_endN d hz1 hE (e := e) (f := 1) he (by omega)
      rw [show 152 + 5 * e + 1 = 153 + 5 * e by omega] at cn
      have cc := fun d => c_costsE d hz1 hR hL hE he
      rw [if_neg (by rw [zI_lt hr h0r]; exact w)]
      simp only [cn, xbd_n]
      simp only [cc, xbd_n]
      rcases hb with q | ⟨q0, q1, q2⟩
      · rw [if_pos (by rw [q]), if_pos ⟨ct, by omega⟩]
        exact ih (e + 1) e _ (by omega) (by omega) (Or.inr ⟨e0, by omega, rfl⟩) (zR_s (by omega)) n (by omega)
      · rw [if_neg (by rw [zI_eq (zR_s (by omega)) (zR_s (by omega))]; omega)]
        by_cases x : cstE v e < l
        · rw [if_pos (by rw [zI_lt (zR_s (by omega)) hl]; exact x), if_pos ⟨ct, by omega⟩]
          exact ih (e + 1) e _ (by omega) (by omega) (Or.inr ⟨e0, by omega, rfl⟩) (zR_s (by omega)) n (by omega)
        · rw [if_neg (by rw [zI_lt (zR_s (by omega)) hl]; exact x), if_neg (fun y => by have := y.2; omega)]
          exact ih (e + 1) b l (by omega) (by omega) (Or.inr ⟨q0, by omega, q2⟩) hl n (by omega)
theorem m_best_l (d : Nat) {v : Int → Int} (hL : LandI v) {P : Int → Bool} {z zE : zH} (hz : zRR z) (hE : PEnds 7 zE v) (h101 : z 101 = v) : ∀ (m : Nat) (e s b : Int), 0 ≤ e → e + m = v 7 → (0 ≤ s ∧ s < 2 ^ e.toNat) → (b = -3 ∨ (0 ≤ b ∧ b < e)) → ∀ n, m < n → xw (r_X12_bestEnd (d + 2) n 10 [some (xR 28 100), some (xI (zI (spSet P m e s))), some (xI (zI b)), some (xI (zI e))] [] (hI z)) (fun r z' => z' = z ∧ r = spBE P (cstE v) m e b) := by
  have h0r : zR 0 := zR_s (by omega)
  have h7r : zR 7 := zR_s (by omega)
  have b7 : 0 ≤ v 7 ∧ v 7 ≤ 8 := hE.1.2.2.2.1
  have e7 : hI z 101 (zI 7).toNatClampNeg = zI (v 7) := by rw [zI_nat h7r, zld (by omega), h101]
  have b7' := bnd (a := 7) (n := 572) (by omega) (by omega) (by omega)
  intro m
  induction m with
  | zero =>
    intro e s b e0 e1 hs hb n hn
    obtain ⟨n, rfl⟩ := Nat.exists_eq_succ_of_ne_zero (show n ≠ 0 by omega)
    rw [l_X12_bestEnd_10]
    simp only [zLit, lenX_s, if_neg b7', e7]
    rw [if_neg (by rw [zI_lt (zR_s (by omega)) (zR_s (by omega))]; omega)]
    exact xw_ret (zR_s (by omega)) hz ⟨rfl, rfl⟩
  | succ m ih =>
    intro e s b e0 e1 hs hb n hn
    obtain ⟨n, rfl⟩ := Nat.exists_eq_succ_of_ne_zero (show n ≠ 0 by omega)
    have he : 0 ≤ e ∧ e < v 7 := ⟨e0, by omega⟩
    have ps := pow_s e0
    obtain ⟨t, t0, t1, t2⟩ := spSet_b P (m + 1) e s e0 hs
    have pb := pow_b (n := e.toNat + (m + 1)) (by omega)
    have p0 : 0 < (2 : Int) ^ e.toNat := by omega
    have tp : 0 ≤ 2 ^ e.toNat * t := Int.mul_nonneg (by omega) t0
    have bit := bit_I (s := spSet P (m + 1) e s) (i := e) ⟨by omega, by omega⟩ ⟨e0, by omega⟩
    rw [spSet_bit P e0 hs] at bit
    have ca := cstE_b hL hE he
    have mc := fun d => m_costAt d hL hE h101 he
    rw [l_X12_bestEnd_10]
    simp only [zLit, lenX_s, if_neg b7', e7, zI_add, bit]
    rw [if_pos (by rw [zI_lt (zR_s (by omega)) (zR_s (by omega))]; omega)]
    have hx : spSet P (m + 1) e s = if P e = true then spSet P m (e + 1) (s + 2 ^ e.toNat) else spSet P m (e + 1) s := by rw [spSet]
    unfold spBE
    by_cases w : P e = true
    · rw [if_pos w] at hx
      rw [if_pos w, if_pos rfl, hx]
      rcases hb with q | q
      · rw [if_pos (by rw [zI_lt (zR_s (by omega)) h0r]; omega), if_pos ⟨w, by omega⟩]
        exact ih (e + 1) _ e (by omega) (by omega) (by rw [ps]; omega) (Or.inr ⟨e0, by omega⟩) n (by omega)
      · have cb := cstE_b hL hE (e := b) ⟨q.1, by omega⟩
        have mb := fun d => m_costAt d hL hE h101 (e := b) ⟨q.1, by omega⟩
        rw [if_neg (by rw [zI_lt (zR_s (by omega)) h0r]; omega)]
        simp only [mc, xbd_n]
        simp only [mb, xbd_n]
        by_cases x : cstE v e < cstE v b
        · rw [if_pos (by rw [zI_lt (zR_s (by omega)) (zR_s (by omega))]; exact x), if_pos ⟨w, Or.inr x⟩]
          exact ih (e + 1) _ e (by omega) (by omega) (by rw [ps]; omega) (Or.inr ⟨e0, by omega⟩) n (by omega)
        · rw [if_neg (by rw [zI_lt (zR_s (by omega)) (zR_s (by omega))]; exact x), if_neg (fun y => by have := y.2; omega)]
          exact ih (e + 1) _ b (by omega) (by omega) (by rw [ps]; omega) (Or.inr ⟨q.1, by omega⟩) n (by omega)
    · rw [if_neg w] at hx
      rw [if_neg w, if_neg (by decide), hx, if_neg (fun y => w y.1)]
      exact ih (e + 1) _ b (by omega) (by omega) (by rw [ps]; omega) (by omega) n (by omega)
theorem k_bestEnd {z : zH} (h : Inv z) : two 111 189 [] z := by
  have hI0 := h
  obtain ⟨hz, hW, hK, hT, hO, hSh, hF, hCt⟩ := h
  have hL := hW.1.2
  have hR := RLand_R hW.1.1
  have hC : PCraft 6 z (z 101) := hW.2.1
  have hE : PEnds 7 z (z 101) := hW.2.2.1
  have hcr := PCraft_cr hC
  have ok0 : okC (z 101) (crV (z 101)) := hC.2.2.2.2.2.1
  have b7 : 0 ≤ z 101 7 ∧ z 101 7 ≤ 8 := hE.1.2.2.2.1
  have hv : ∀ k, zR (z 101 k) := hz 101
  refine xw_m (P := fun r z1 => r = spBE (spCanB (z 101) (crV (z 101))) (cstE (z 101)) (z 101 7).toNat 0 (-3) ∧ Inv z1 ∧ z1 101 = z 101) ?_ ?_
  · rw [e_X11_bestEnd, show xF = 999999 + 1 from rfl, l_X11_bestEnd_0]
    simp only [zLit, zI_neg]
    refine xw_k (c_search _ hv hL hz hR hE (o := 6) ⟨by decide, by decide⟩ (by rw [hcr]; exact ok0) (g := -3) (zR_s (by omega))) ?_
    intro r1 z1 hr1 hz1 hP
    have f : fr [51, 52, 53, 54] z z1 := hP.2.2.2
    rw [hcr] at hP
    have hE1 : PEnds 7 z1 (z 101) := PEnds_t hE (f 7 rfl) (f 8 rfl) (fun _ _ => rfl)
    have hR1 : LandR z1 (z 101) := LandR_fr hR f rfl rfl rfl rfl
    have inv1 : Inv z1 := Inv_scrC hI0 hz1 (fr_mono f rfl)
    refine xw_m (c_best_l 54 hv hL ok0 hz1 hR1 hE1 hP (z 101 7).toNat 0 (-3) 0 (by omega) (by omega) (Or.inl rfl) (zR_s (by omega)) 999999 (by omega)) ?_
    intro r z2 _ _ ⟨e2, er⟩
    subst e2
    exact ⟨er, inv1, f 101 rfl⟩
  · intro r z1 hr hz1 ⟨er, inv1, e1⟩
    rw [e_X12_bestEnd, show xF = 999999 + 1 from rfl, l_X12_bestEnd_0]
    refine xw_k (m_canBe 54 inv1) ?_
    intro r2 z2 hr2 hz2 ⟨er2, inv2, e2, _⟩
    rw [e1] at er2 e2
    subst er2
    simp only [zLit, zI_neg]
    refine xw_m (m_best_l 57 hL (P := spCanB (z 101) (crV (z 101))) hz2 hE e2 (z 101 7).toNat 0 0 (-3) (by omega) (by omega) ⟨by omega, by decide⟩ (Or.inl rfl) 999999 (by omega)) ?_
    intro r3 z3 _ _ ⟨e3, er3⟩
    subst e3
    exact ⟨by rw [er3, er], inv2⟩
