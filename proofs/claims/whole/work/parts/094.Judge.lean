/-! PURE, part 24: judge -/
set_option maxRecDepth 20000 in
theorem c_ccpW (d : Nat) {z : zH} (hz : zRR z) {o : Nat} (ho : o = 46 ∨ o = 49) : xw (cM (d + 1) 15 [xR 18 o, xR 18 6] (hI z)) (fun _ z' => crC z' o = crC z 6 ∧ z' o 4 = z 6 4 ∧ fr [o] z z') := by
  refine xw_e (r := 0) (z := zup (zup (zup (zup (zup z o 0 (z 6 0)) o 1 (z 6 1)) o 2 (z 6 2)) o 3 (z 6 3)) o 4 (z 6 4)) ?_ (zR_s (by omega)) ?_ ⟨?_, ?_, ?_⟩
  · rw [e_X2_become_]
    rcases ho with e | e <;> subst e
    · simp (maxSteps := 3000000) (disch := (first | exact hz _ _ | exact hv _ | exact hL | assumption | (simp (disch := decide) only [zup_ne]; exact hL) | (simp only [zR]; omega) | omega)) only [zLit, zI_div, hI_fs, hI_us, zI_add, zI_sub, zI_mul, zI_neg, zI_lt, zI_eq, zI_ite, xbd_s, zI_nat, zld, zst, zbd, zB_0, zB_1, lenX_s, zup_at, xgd, cond_true, cond_false, and_self, and_true, true_and, false_and, and_false, or_self, or_false, false_or, if_true, if_false, ite_true, ite_false, reduceIte, reduceCtorEq, Nat.reduceEqDiff, Nat.reduceAdd, Nat.reduceMul, Int.reduceNeg, Int.reduceAdd, Int.reduceSub, Int.reduceMul, Int.reduceLT, Int.reduceLE, Int.reduceEq, Int.reduceDiv, Int.reduceMod, Int.reduceToNat, Int.toNat_zero, Int.toNat_one, Nat.reduceLeDiff, Nat.reduceLT, ite_not, not_true, not_false_eq_true]
    · simp (maxSteps := 3000000) (disch := (first | exact hz _ _ | exact hv _ | exact hL | assumption | (simp (disch := decide) only [zup_ne]; exact hL) | (simp only [zR]; omega) | omega)) only [zLit, zI_div, hI_fs, hI_us, zI_add, zI_sub, zI_mul, zI_neg, zI_lt, zI_eq, zI_ite, xbd_s, zI_nat, zld, zst, zbd, zB_0, zB_1, lenX_s, zup_at, xgd, cond_true, cond_false, and_self, and_true, true_and, false_and, and_false, or_self, or_false, false_or, if_true, if_false, ite_true, ite_false, reduceIte, reduceCtorEq, Nat.reduceEqDiff, Nat.reduceAdd, Nat.reduceMul, Int.reduceNeg, Int.reduceAdd, Int.reduceSub, Int.reduceMul, Int.reduceLT, Int.reduceLE, Int.reduceEq, Int.reduceDiv, Int.reduceMod, Int.reduceToNat, Int.toNat_zero, Int.toNat_one, Nat.reduceLeDiff, Nat.reduceLT, ite_not, not_true, not_false_eq_true]
  · exact zRR_up (zRR_up (zRR_up (zRR_up (zRR_up hz _ _ (hz _ _)) _ _ (hz _ _)) _ _ (hz _ _)) _ _ (hz _ _)) _ _ (hz _ _)
  · simp only [crC, zup_at, and_self, and_true, true_and, and_false, if_true, if_false, reduceIte, Int.reduceEq]
  · simp only [zup_at, and_self, and_true, true_and, and_false, if_true, if_false, reduceIte, Int.reduceEq]
  · have e : [o].elem o = true := by simp
    exact fr_up (fr_up (fr_up (fr_up (fr_up (fr_rf _ _) _ _ e) _ _ e) _ _ e) _ _ e) _ _ e
def spJudge (v rw : Int → Int) (cnt : Int) : Nat → Int → crft → Int
  | 0, _, c => if cnt < 30 ∧ mayC v c 4 then 99 else 0
  | m + 1, k, c => if mayC v c (rw (2 * k)) then (if (spAct v c (rw (2 * k))).2.2.2 = rw (2 * k + 1) then spJudge v rw cnt m (k + 1) (spAct v c (rw (2 * k))) else k + 1) else k + 1
theorem c_judge_l (d : Nat) {v rw : Int → Int} (hL : LandI v) {cnt : Int} (hc : 0 ≤ cnt ∧ cnt ≤ 30) : ∀ (m : Nat) (k : Int) (z : zH), zRR z → LandR z v → okC v (crC z 49) → (0 ≤ z 49 4 ∧ z 49 4 ≤ 200 + k) → z 68 1 = 2 → z 68 3 = cnt → (∀ k, 0 ≤ k → k < 2 * cnt → z 69 k = rw k) → 0 ≤ k → k + m = cnt → ∀ n, m < n → xw (r_X11_judge (d + 4) n 16 [some (xR 27 0), some (xI (zI k)), none] [] (hI z)) (fun r z' => r = spJudge v rw cnt m k (crC z 49) ∧ fr [49] z z') := by
  intro m
  induction m with
  | zero =>
    intro k z hz hR hC ht h1 h3 hr h0 hk n hn
    obtain ⟨n, rfl⟩ := Nat.exists_eq_succ_of_ne_zero (show n ≠ 0 by omega)
    have cm := c_mayC (d + 1) hz hR hL hC (a := 4) (zR_s (by omega))
    rw [l_X11_judge_16]
    simp only [zLit, hI_fs, h3]
    rw [if_neg (by rw [zI_lt (zR_s (by omega)) (zR_s (by omega))]; omega)]
    unfold spJudge
    by_cases q : cnt < 30
    · rw [if_pos (by rw [zI_lt (zR_s (by omega)) (zR_s (by omega))]; exact q)]
      simp only [cm, xbd_s, zB_0]
      by_cases w : mayC v (crC z 49) 4
      · rw [if_neg (fun x => x w)]
        exact xw_ret (zR_s (by omega)) hz ⟨(if_pos ⟨q, w⟩).symm, fr_rf _ _⟩
      · rw [if_pos w]
        exact xw_ret (zR_s (by omega)) hz ⟨(if_neg (fun x => w x.2)).symm, fr_rf _ _⟩
    · rw [if_neg (by rw [zI_lt (zR_s (by omega)) (zR_s (by omega))]; exact q)]
      exact xw_ret (zR_s (by omega)) hz ⟨(if_neg (fun x => q x.1)).symm, fr_rf _ _⟩
  | succ m ih =>
    intro k z hz hR hC ht h1 h3 hr h0 hk n hn
    obtain ⟨n, rfl⟩ := Nat.exists_eq_succ_of_ne_zero (show n ≠ 0 by omega)
    have c0 := c_rNumber (o := 68) (w := 2) (n := 30) (d + 2) hz h1 (i := k) (k := 0) ⟨h0, by omega⟩ (by omega) (by omega) (by simp only [Nat.reduceAdd, lenX_s]; omega) (by omega)
    rw [show (68 : Nat) + 1 = 69 from rfl, show k * 2 + 0 = 2 * k by omega, hr (2 * k) (by omega) (by omega)] at c0
    have hrz : zR (rw (2 * k)) := by rw [← hr (2 * k) (by omega) (by omega)]; exact hz _ _
    have hrz1 : zR (rw (2 * k + 1)) := by rw [← hr (2 * k + 1) (by omega) (by omega)]; exact hz _ _
    have cm := c_mayC (d + 1) hz hR hL hC (a := rw (2 * k)) hrz
    rw [l_X11_judge_16]
    simp only [zLit, hI_fs, h3, zI_add]
    rw [if_pos (by rw [zI_lt (zR_s (by omega)) (zR_s (by omega))]; omega)]
    simp only [c0, cm, xbd_s, zB_0]
    by_cases w : mayC v (crC z 49) (rw (2 * k))
    · rw [if_neg (fun x => x w)]
      refine xw_k (c_moveW (d + 1) hz hR hL (o := 49) (Or.inr (by omega)) hC (by omega) w) ?_
      intro r z1 hr1 hz1 ⟨e1, e2, f, _⟩
      have c1 := c_rNumber (o := 68) (w := 2) (n := 30) (d + 2) hz1 (by rw [f 68 rfl]; exact h1) (i := k) (k := 1) ⟨h0, by rw [f 68 rfl]; omega⟩ (by rw [f 68 rfl]; omega) (by omega) (by simp only [Nat.reduceAdd, lenX_s]; omega) (by omega)
      rw [show (68 : Nat) + 1 = 69 from rfl, show k * 2 + 1 = 2 * k + 1 by omega, f 69 rfl, hr (2 * k + 1) (by omega) (by omega)] at c1
      simp only [c1, xbd_s, hI_fs]
      have e13 : z1 49 3 = (spAct v (crC z 49) (rw (2 * k))).2.2.2 := by rw [← e1]
      have ee : spJudge v rw cnt (m + 1) k (crC z 49) = if (spAct v (crC z 49) (rw (2 * k))).2.2.2 = rw (2 * k + 1) then spJudge v rw cnt m (k + 1) (spAct v (crC z 49) (rw (2 * k))) else k + 1 := by
        rw [spJudge]
        exact if_pos w
      rw [← e13] at ee
      by_cases q : z1 49 3 = rw (2 * k + 1)
      · rw [if_pos q] at ee
        rw [if_pos (by rw [q])]
        refine xw_m (ih (k + 1) z1 hz1 (LandR_fr hR f rfl rfl rfl rfl) (by rw [e1]; exact okC_act hL hC w) (by rw [e2]; omega) (by rw [f 68 rfl]; exact h1) (by rw [f 68 rfl]; exact h3) (fun j j0 j1 => by rw [f 69 rfl]; exact hr j j0 j1) (by omega) (by omega) n (by omega)) ?_
        intro r2 z2 _ _ ⟨e3, f2⟩
        rw [ee, ← e1]
        exact ⟨e3, fr_tr f f2 rfl⟩
      · rw [if_neg q] at ee
        rw [if_neg (by rw [zI_eq (hz1 _ _) hrz1]; exact q)]
        exact xw_ret (zR_s (by omega)) hz1 ⟨ee.symm, f⟩
    · have ee : spJudge v rw cnt (m + 1) k (crC z 49) = k + 1 := by
        rw [spJudge]
        exact if_neg w
      rw [if_pos w]
      exact xw_ret (zR_s (by omega)) hz ⟨ee.symm, fr_rf _ _⟩
theorem m_judge_l (d : Nat) {v rw : Int → Int} (hL : LandI v) {cnt : Int} (hc : 0 ≤ cnt ∧ cnt ≤ 30) : ∀ (m : Nat) (k : Int) (z : zH), zRR z → z 101 = v → okC v (crM z) → z 100 31 = cnt → (∀ k, 0 ≤ k → k < 2 * cnt → z 115 k = rw k) → 0 ≤ k → k + m = cnt → ∀ n, m < n → xw (r_X12_judge (d + 4) n 6 [some (xR 28 100), some (xI (zI k))] [] (hI z)) (fun r z' => r = spJudge v rw cnt m k (crM z) ∧ fr [100] z z' ∧ ff [5, 6, 7, 8] z z') := by
  intro m
  induction m with
  | zero =>
    intro k z hz hv hC h3 hr h0 hk n hn
    obtain ⟨n, rfl⟩ := Nat.exists_eq_succ_of_ne_zero (show n ≠ 0 by omega)
    subst hv
    have cm := m_mayC (d + 1) hz hL hC (a := 4) (by omega)
    rw [l_X12_judge_6]
    simp only [zLit, hI_fs, h3]
    rw [if_neg (by rw [zI_lt (zR_s (by omega)) (zR_s (by omega))]; omega)]
    unfold spJudge
    by_cases q : cnt < 30
    · rw [if_pos (by rw [zI_lt (zR_s (by omega)) (zR_s (by omega))]; exact q)]
      simp only [cm, xbd_s, zB_0]
      by_cases w : mayC (z 101) (crM z) 4
      · rw [if_neg (fun x => x w)]
        exact xw_ret (zR_s (by omega)) hz ⟨(if_pos ⟨q, w⟩).symm, fr_rf _ _, ff_rf _ _⟩
      · rw [if_pos w]
        exact xw_ret (zR_s (by omega)) hz ⟨(if_neg (fun x => w x.2)).symm, fr_rf _ _, ff_rf _ _⟩
    · rw [if_neg (by rw [zI_lt (zR_s (by omega)) (zR_s (by omega))]; exact q)]
      exact xw_ret (zR_s (by omega)) hz ⟨(if_neg (fun x => q x.1)).symm, fr_rf _ _, ff_rf _ _⟩
  | succ m ih =>
    intro k z hz hv hC h3 hr h0 hk n hn
    obtain ⟨n, rfl⟩ := Nat.exists_eq_succ_of_ne_zero (show n ≠ 0 by omega)
    have hrz : zR (rw (2 * k)) := by rw [← hr (2 * k) (by omega) (by omega)]; exact hz _ _
    have hrz1 : zR (rw (2 * k + 1)) := by rw [← hr (2 * k + 1) (by omega) (by omega)]; exact hz _ _
    have h00 : zR 0 := zR_s (by omega)
    have hk2 : zR (2 * k) := zR_s (by omega)
    have hk3 : zR (2 * k + 1) := zR_s (by omega)
    have r0 : hI z 115 (zI (2 * k)).toNatClampNeg = zI (rw (2 * k)) := by rw [zI_nat hk2, zld (by omega), hr (2 * k) (by omega) (by omega)]
    rw [l_X12_judge_6]
    simp only [zLit, hI_fs, h3, zI_add, zI_mul, r0, lenX_s]
    rw [if_pos (by rw [zI_lt (zR_s (by omega)) (zR_s (by omega))]; omega), if_neg (by rw [zI_lt hk2 h00, zI_nat hk2]; omega)]
    simp only [m_isAct _ hrz, xbd_s, zB_0]
    by_cases qa : 0 ≤ rw (2 * k) ∧ rw (2 * k) ≤ 8
    · rw [if_neg (fun x => x qa), if_neg (by rw [zI_lt hk2 h00, zI_nat hk2]; omega)]
      have cm := m_mayC (d + 1) hz (by rw [hv]; exact hL) (by rw [hv]; exact hC) qa
      rw [hv] at cm
      simp only [r0, cm, xbd_s, zB_0]
      by_cases w : mayC v (crM z) (rw (2 * k))
      · rw [if_neg (fun x => x w), if_neg (by rw [zI_lt hk2 h00, zI_nat hk2]; omega)]
        (try simp only [r0])
        refine xw_k (m_actW (d + 1) hz (by rw [hv]; exact hL) (by rw [hv]; exact hC) (by rw [hv]; exact w)) ?_
        intro r z1 hr1 hz1 ⟨e1, f, g⟩
        rw [hv] at e1
        have r1 : hI z1 115 (zI (2 * k + 1)).toNatClampNeg = zI (rw (2 * k + 1)) := by rw [zI_nat hk3, zld (by omega), f 115 rfl, hr (2 * k + 1) (by omega) (by omega)]
        rw [if_neg (by rw [zI_lt hk3 h00, zI_nat hk3]; omega), r1]
        have e13 : z1 100 8 = (spAct v (crM z) (rw (2 * k))).2.2.2 := by rw [← e1]
        have ee : spJudge v rw cnt (m + 1) k (crM z) = if (spAct v (crM z) (rw (2 * k))).2.2.2 = rw (2 * k + 1) then spJudge v rw cnt m (k + 1) (spAct v (crM z) (rw (2 * k))) else k + 1 := by
          rw [spJudge]
          exact if_pos w
        rw [← e13] at ee
        simp only [hI_fs]
        by_cases q : z1 100 8 = rw (2 * k + 1)
        · rw [if_pos q] at ee
          rw [if_pos (by rw [q])]
          refine xw_m (ih (k + 1) z1 hz1 (by rw [f 101 rfl]; exact hv) (by rw [e1]; exact okC_act hL hC w) (by rw [g 31 rfl]; exact h3) (fun j j0 j1 => by rw [f 115 rfl]; exact hr j j0 j1) (by omega) (by omega) n (by omega)) ?_
          intro r2 z2 _ _ ⟨e3, f2, g2⟩
          rw [ee, ← e1]
          exact ⟨e3, fr_tr f f2 rfl, ff_tr g g2 rfl⟩
        · rw [if_neg q] at ee
          rw [if_neg (by rw [zI_eq (hz1 _ _) hrz1]; exact q)]
          exact xw_ret (zR_s (by omega)) hz1 ⟨by rw [ee]; omega, f, g⟩
      · have ee : spJudge v rw cnt (m + 1) k (crM z) = k + 1 := by
          rw [spJudge]
          exact if_neg w
        rw [if_pos w]
        exact xw_ret (zR_s (by omega)) hz ⟨by rw [ee]; omega, fr_rf _ _, ff_rf _ _⟩
    · have ee : spJudge v rw cnt (m + 1) k (crM z) = k + 1 := by
        rw [spJudge]
        exact if_neg (fun w => qa w.1)
      rw [if_pos qa]
      exact xw_ret (zR_s (by omega)) hz ⟨by rw [ee]; omega, fr_rf _ _, ff_rf _ _⟩
def scrC : List Nat := [45, 46, 48, 49, 50, 51, 52, 53, 54, 57, 58, 59, 60, 61, 62, 63, 64, 65]
theorem Inv_scrC {z z' : zH} (h : Inv z) (y : zRR z') (f : fr scrC z z') : Inv z' :=
  Inv_scr h y (fr_mono f rfl) (by rw [f 100 rfl]) (by rw [f 100 rfl]) (by rw [f 100 rfl]) (by rw [f 100 rfl]) (by rw [f 55 rfl]) (by rw [f 66 rfl]) (by rw [f 47 rfl]) (by rw [f 47 rfl])
theorem k_judge {z : zH} (h : Inv z) : two 128 231 [] z := by
  have hI0 := h
  obtain ⟨hz, hW, hK, hT, hO, hS, hF, hCt⟩ := h
  have hL := hW.1.2
  have hR := RLand_R hW.1.1
  have hC : PCraft 6 z (z 101) := hW.2.1
  have hcr := PCraft_cr hC
  obtain ⟨p0, p1, p2, p3, p4, g, g5⟩ := hC
  obtain ⟨⟨c0, c1, c2, c3⟩, r3, r4, r5⟩ := hO
  refine xw_m (P := fun r z1 => r = spJudge (z 101) (z 115) (z 100 31) (z 100 31).toNat 0 (crV (z 101)) ∧ fr [49] z z1) ?_ ?_
  · rw [e_X11_judge, show xF = 999999 + 1 from rfl, l_X11_judge_0]
    refine xw_k (c_ccpW _ hz (o := 49) (Or.inr rfl)) ?_
    intro r z1 hr hz1 ⟨e1, e2, f⟩
    simp only [zLit]
    refine xw_m (c_judge_l 55 (v := z 101) (rw := z 115) hL (cnt := z 100 31) r4 (z 100 31).toNat 0 z1 hz1 (LandR_fr hR f rfl rfl rfl rfl) (by rw [e1, hcr]; exact g) (by rw [e2, p4]; omega) (by rw [f 68 rfl]; exact c1) (by rw [f 68 rfl]; exact r3) (fun k k0 k1 => by rw [f 69 rfl]; exact r5 k k0 k1) (by omega) (by omega) 999999 (by omega)) ?_
    intro r2 z2 _ _ ⟨e, f2⟩
    rw [e1, hcr] at e
    exact ⟨e, fr_tr f f2 rfl⟩
  · intro r z1 hr hz1 ⟨e, f⟩
    have inv1 : Inv z1 := Inv_scrC hI0 hz1 (fr_mono f rfl)
    have e101 : z1 101 = z 101 := f 101 rfl
    rw [e_X12_judge, show xF = 999999 + 1 from rfl, l_X12_judge_0]
    refine xw_k (m_beginW _ hz1) ?_
    intro r2 z2 hr2 hz2 ⟨c4, f2, g2⟩
    rw [e101] at c4
    simp only [zLit]
    refine xw_m (m_judge_l 55 (v := z 101) (rw := z 115) hL (cnt := z 100 31) r4 (z 100 31).toNat 0 z2 hz2 (by rw [f2 101 rfl]; exact e101) (by rw [c4]; exact g) (by rw [g2 31 rfl, f 100 rfl]) (fun k k0 k1 => by rw [f2 115 rfl, f 115 rfl]) (by omega) (by omega) 999999 (by omega)) ?_
    intro r3 z3 hr3 hz3 ⟨e3, f3, g3⟩
    rw [c4] at e3
    exact ⟨by rw [e3, e], Inv_scrM inv1 hz3 (fr_tr (fr_mono f2 (T := scrM) rfl) (fr_mono f3 rfl) rfl) (ff_tr g2 g3 rfl) rfl rfl rfl rfl⟩
