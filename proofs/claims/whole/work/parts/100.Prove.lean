/-! PURE, part 30: prove -/
theorem m_prove_l (d : Nat) {T : Int} (hT : 0 ≤ T ∧ T ≤ 30) {A H : Int → Int} : ∀ (m : Nat) (k : Int) (z : zH), zRR z → z 100 31 = T → (∀ j, 0 ≤ j → j < T → z 108 j = A j ∧ z 109 j = H j) → 0 ≤ k → k + m = T → (∀ j, 0 ≤ j → j < k → z 115 (2 * j) = A j ∧ z 115 (2 * j + 1) = H j) → ∀ n, m < n → xw (r_X12_prove d n 33 [some (xR 28 100), none, some (xI (zI k))] [] (hI z)) (fun r z' => r = T ∧ (∀ j, 0 ≤ j → j < T → z' 115 (2 * j) = A j ∧ z' 115 (2 * j + 1) = H j) ∧ fr [115] z z') := by
  intro m
  induction m with
  | zero =>
    intro k z hz h31 hl h0 h1 hd n hn
    obtain ⟨n, rfl⟩ := Nat.exists_eq_succ_of_ne_zero (show n ≠ 0 by omega)
    have e : k = T := by omega
    subst e
    rw [l_X12_prove_33]
    simp only [hI_fs, h31]
    rw [if_neg (by rw [zI_lt (zR_s (by omega)) (zR_s (by omega))]; omega)]
    exact xw_ret (zR_s (by omega)) hz ⟨rfl, hd, fr_rf _ _⟩
  | succ m ih =>
    intro k z hz h31 hl h0 h1 hd n hn
    obtain ⟨n, rfl⟩ := Nat.exists_eq_succ_of_ne_zero (show n ≠ 0 by omega)
    have hk : zR k := zR_s (by omega)
    have hk2 : zR (2 * k) := zR_s (by omega)
    have hk3 : zR (2 * k + 1) := zR_s (by omega)
    have hr0 : zR 0 := zR_s (by omega)
    rw [l_X12_prove_33]
    simp only [hI_fs, h31, zLit, zI_mul, zI_add, lenX_s]
    rw [if_pos (by rw [zI_lt hk (zR_s (by omega))]; omega)]
    have b1 : ¬ (zI k < zI 0 ∨ 60 ≤ (zI k).toNatClampNeg) := by rw [zI_lt hk hr0, zI_nat hk]; omega
    have b2 : ¬ (zI (2 * k) < zI 0 ∨ 60 ≤ (zI (2 * k)).toNatClampNeg) := by rw [zI_lt hk2 hr0, zI_nat hk2]; omega
    have b3 : ¬ (zI (2 * k + 1) < zI 0 ∨ 60 ≤ (zI (2 * k + 1)).toNatClampNeg) := by rw [zI_lt hk3 hr0, zI_nat hk3]; omega
    simp only [if_neg b1, if_neg b2, if_neg b3]
    have w := hl k h0 (by omega)
    simp only [zI_nat hk, zI_nat hk2, zI_nat hk3, zld h0, w.1, w.2, zst (show 0 ≤ 2 * k by omega), zst (show 0 ≤ 2 * k + 1 by omega)]
    obtain ⟨Z, dZ⟩ : ∃ Z, Z = zup (zup z 115 (2 * k) (A k)) 115 (2 * k + 1) (H k) := ⟨_, rfl⟩
    rw [← dZ]
    have yZ : zRR Z := by rw [dZ]; exact zRR_up (zRR_up hz _ _ (by rw [← w.1]; exact hz _ _)) _ _ (by rw [← w.2]; exact hz _ _)
    have f : fr [115] z Z := by rw [dZ]; exact fr_up (fr_up (fr_rf _ _) _ _ rfl) _ _ rfl
    have g : ∀ j, Z 115 j = if j = 2 * k + 1 then H k else if j = 2 * k then A k else z 115 j := by
      intro j
      rw [dZ, zup_at, zup_at]
      simp only [true_and]
    refine xw_m (ih (k + 1) Z yZ (by rw [f 100 rfl]; exact h31) (fun j j0 j1 => by rw [f 108 rfl, f 109 rfl]; exact hl j j0 j1) (by omega) (by omega) (fun j j0 j1 => ?_) n (by omega)) ?_
    · rw [g, g]
      by_cases q : j = k
      · subst q
        rw [if_neg (by omega), if_pos rfl, if_pos rfl]
        exact ⟨rfl, rfl⟩
      · rw [if_neg (by omega), if_neg (by omega), if_neg (by omega), if_neg (by omega)]
        exact hd j j0 (by omega)
    · intro r z' _ _ ⟨e1, e2, e3⟩
      exact ⟨e1, e2, fr_tr f e3 rfl⟩
theorem k_prove {z : zH} (h : Inv z) {p : Int} (hp : zR p) : two 125 228 [xI (zI p)] z := by
  have hI0 := h
  obtain ⟨hz, hW, hK, hT, hO, hSh, hF, hCt⟩ := h
  have hP : PPlans 9 z (z 101) := hW.2.2.2.1
  have r9 : z 9 3 = z 101 8 := hP.1.2.2.1
  have b8 := hP.1.2.2.2
  have hO' := hO
  obtain ⟨⟨o0, o1, o2, o3⟩, -⟩ := hO'
  by_cases q : 0 ≤ p ∧ p < z 101 8
  · have ok := fl_ok hI0 (p := p) (s := -1) (Or.inl rfl)
    obtain ⟨T, dT⟩ : ∃ T : Int, T = if (spT (z 101) p (-1) : Int) < 30 then (spT (z 101) p (-1) : Int) else 30 := ⟨_, rfl⟩
    have hT30 : 0 ≤ T ∧ T ≤ 30 := by rw [dT]; split <;> omega
    have hTr : zR T := zR_s (by omega)
    have hTs : T ≤ (spT (z 101) p (-1) : Int) := by rw [dT]; split <;> omega
    refine xw_m (P := fun r z1 => r = T ∧ fr [45, 46, 47, 48, 68, 69] z z1 ∧ z1 68 0 = 30 ∧ z1 68 1 = 2 ∧ z1 47 0 = 30 ∧ z1 47 1 = 2 ∧ z1 68 3 = T ∧ (∀ j : Nat, (j : Int) < T → z1 69 (2 * j) = chP (z 101) p j (traj (z 101) (chP (z 101) p) (spGives (z 101) (-1)) (crV (z 101)) j) ∧ z1 69 (2 * j + 1) = (traj (z 101) (chP (z 101) p) (spGives (z 101) (-1)) (crV (z 101)) (j + 1)).2.2.2)) ?_ ?_
    · rw [e_X11_prove]
      repeat' (first | (with_reducible apply xw_f; (case h => (first | (simp (disch := (first | exact hz _ _ | exact hv _ | exact hL | assumption | (simp (disch := decide) only [zup_ne]; exact hL) | (simp only [zR]; omega) | omega)) only [zLit, zI_div, hI_fs, hI_us, zI_add, zI_sub, zI_mul, zI_neg, zI_lt, zI_eq, zI_ite, xbd_s, zI_nat, zld, zst, zbd, zB_0, zB_1, lenX_s, zup_at, xgd, cond_true, cond_false, and_self, and_true, true_and, false_and, and_false, or_self, or_false, false_or, if_true, if_false, ite_true, ite_false, reduceIte, reduceCtorEq, Nat.reduceEqDiff, Nat.reduceAdd, Nat.reduceMul, Int.reduceNeg, Int.reduceAdd, Int.reduceSub, Int.reduceMul, Int.reduceLT, Int.reduceLE, Int.reduceEq, Int.reduceDiv, Int.reduceMod, Int.reduceToNat, Int.toNat_zero, Int.toNat_one, Nat.reduceLeDiff, Nat.reduceLT, ite_not, not_true, not_false_eq_true, r9] <;> omega) | omega))) | (with_reducible apply xw_t; (case h => (first | (simp (disch := (first | exact hz _ _ | exact hv _ | exact hL | assumption | (simp (disch := decide) only [zup_ne]; exact hL) | (simp only [zR]; omega) | omega)) only [zLit, zI_div, hI_fs, hI_us, zI_add, zI_sub, zI_mul, zI_neg, zI_lt, zI_eq, zI_ite, xbd_s, zI_nat, zld, zst, zbd, zB_0, zB_1, lenX_s, zup_at, xgd, cond_true, cond_false, and_self, and_true, true_and, false_and, and_false, or_self, or_false, false_or, if_true, if_false, ite_true, ite_false, reduceIte, reduceCtorEq, Nat.reduceEqDiff, Nat.reduceAdd, Nat.reduceMul, Int.reduceNeg, Int.reduceAdd, Int.reduceSub, Int.reduceMul, Int.reduceLT, Int.reduceLE, Int.reduceEq, Int.reduceDiv, Int.reduceMod, Int.reduceToNat, Int.toNat_zero, Int.toNat_one, Nat.reduceLeDiff, Nat.reduceLT, ite_not, not_true, not_false_eq_true, r9] <;> omega) | omega))) | (with_reducible apply xw_b; (case h => (simp (disch := (first | exact hz _ _ | exact hv _ | exact hL | assumption | (simp (disch := decide) only [zup_ne]; exact hL) | (simp only [zR]; omega) | omega)) only [zLit, zI_div, hI_fs, hI_us, zI_add, zI_sub, zI_mul, zI_neg, zI_lt, zI_eq, zI_ite, xbd_s, zI_nat, zld, zst, zbd, zB_0, zB_1, lenX_s, zup_at, xgd, cond_true, cond_false, and_self, and_true, true_and, false_and, and_false, or_self, or_false, false_or, if_true, if_false, ite_true, ite_false, reduceIte, reduceCtorEq, Nat.reduceEqDiff, Nat.reduceAdd, Nat.reduceMul, Int.reduceNeg, Int.reduceAdd, Int.reduceSub, Int.reduceMul, Int.reduceLT, Int.reduceLE, Int.reduceEq, Int.reduceDiv, Int.reduceMod, Int.reduceToNat, Int.toNat_zero, Int.toNat_one, Nat.reduceLeDiff, Nat.reduceLT, ite_not, not_true, not_false_eq_true, r9, c_rHas]; rfl)); try dsimp only) | (with_reducible apply xw_c <;> intro q9 <;> (try simp (disch := (first | exact hz _ _ | exact hv _ | exact hL | assumption | (simp (disch := decide) only [zup_ne]; exact hL) | (simp only [zR]; omega) | omega)) only [zLit, zI_div, hI_fs, hI_us, zI_add, zI_sub, zI_mul, zI_neg, zI_lt, zI_eq, zI_ite, xbd_s, zI_nat, zld, zst, zbd, zB_0, zB_1, lenX_s, zup_at, xgd, cond_true, cond_false, and_self, and_true, true_and, false_and, and_false, or_self, or_false, false_or, if_true, if_false, ite_true, ite_false, reduceIte, reduceCtorEq, Nat.reduceEqDiff, Nat.reduceAdd, Nat.reduceMul, Int.reduceNeg, Int.reduceAdd, Int.reduceSub, Int.reduceMul, Int.reduceLT, Int.reduceLE, Int.reduceEq, Int.reduceDiv, Int.reduceMod, Int.reduceToNat, Int.toNat_zero, Int.toNat_one, Nat.reduceLeDiff, Nat.reduceLT, ite_not, not_true, not_false_eq_true, r9] at q9)))
      rw [show (-1 : Int32) = zI (-1) by decide]
      refine xw_k (c_byPlanW 53 hI0 q (Or.inl rfl)) ?_
      intro r z1 hr hz1 ⟨e1, e2, e3, e4, f, n0, n1⟩
      have cc : ∀ d, cM (d + 1) 61 [xR 23 68, xR 23 47] (hI z1) = some (zI 0, hI (zup (zcp z1 48 69 60) 68 3 (z1 47 3))) := fun d => c_rCopy d (z := z1) (o1 := 68) (o2 := 47) (n := 60) rfl rfl (by omega) (by omega)
      obtain ⟨Z, dZ⟩ : ∃ Z, Z = zup (zcp z1 48 69 60) 68 3 (z1 47 3) := ⟨_, rfl⟩
      rw [← dZ] at cc
      have yZ : zRR Z := by rw [dZ]; exact zRR_up (zRR_cp hz1 _ _ _) _ _ (hz1 _ _)
      have eT : Z 68 3 = T := by rw [dZ, zup_at, if_pos ⟨rfl, rfl⟩, e3, dT]
      simp only [cc, xbd_n, hI_fs, eT]
      refine xw_ret hTr yZ ⟨rfl, ?_, ?_, ?_, ?_, ?_, eT, ?_⟩
      · rw [dZ]; exact fr_up (fr_cp (fr_mono f rfl) _ _ rfl) _ _ rfl
      · rw [dZ, zup_at, if_neg (by omega), zcp_ne _ _ (by decide), f 68 rfl]; exact o0
      · rw [dZ, zup_at, if_neg (by omega), zcp_ne _ _ (by decide), f 68 rfl]; exact o1
      · rw [dZ, zup_ne _ _ _ (by decide), zcp_ne _ _ (by decide)]; exact n0
      · rw [dZ, zup_ne _ _ _ (by decide), zcp_ne _ _ (by decide)]; exact n1
      · intro j hj
        rw [dZ, zup_ne _ _ _ (by decide), zcp_at _ (by omega), zcp_at _ (by omega)]
        exact e4 j (by omega) (by omega)
    · intro r z1 hr hz1 ⟨e, f, a0, a1, a2, a3, a4, a5⟩
      have e1 : z1 101 = z 101 := f 101 rfl
      have b81 : 0 ≤ z1 101 8 ∧ z1 101 8 ≤ 4 := by rw [e1]; exact b8
      have qp1 : 0 ≤ p ∧ p < z1 101 8 := by rw [e1]; exact q
      -- the world as the model's flight needs it
      have g1 : zRR z1 := hz1
      have hL := hW.1.2
      have hC : PCraft 6 z (z 101) := hW.2.1
      have lo : ∀ o, o < 45 → z1 o = z o := fun o ho => f o ((by decide : ∀ o, o < 45 → [45, 46, 47, 48, 68, 69].elem o = false) o ho)
      have inv0 : ∃ y : zH, Inv y ∧ y 101 = z 101 := ⟨z, hI0, rfl⟩
      have hz := hz1
      refine xw_m (P := fun r z2 => r = T ∧ fr [100, 108, 109, 115] z1 z2 ∧ ff [5, 6, 7, 8, 16, 31] z1 z2 ∧ z2 100 31 = T ∧ (∀ j : Nat, (j : Int) < T → z2 115 (2 * j) = chP (z 101) p j (traj (z 101) (chP (z 101) p) (spGives (z 101) (-1)) (crV (z 101)) j) ∧ z2 115 (2 * j + 1) = (traj (z 101) (chP (z 101) p) (spGives (z 101) (-1)) (crV (z 101)) (j + 1)).2.2.2)) ?_ ?_
      · rw [e_X12_prove, show xF = 999999 + 1 from rfl, l_X12_prove_0]
        repeat' (first | (with_reducible apply xw_f; (case h => (first | (simp (disch := (first | exact hz _ _ | exact hv _ | exact hL | assumption | (simp (disch := decide) only [zup_ne]; exact hL) | (simp only [zR]; omega) | omega)) only [zLit, zI_div, hI_fs, hI_us, zI_add, zI_sub, zI_mul, zI_neg, zI_lt, zI_eq, zI_ite, xbd_s, zI_nat, zld, zst, zbd, zB_0, zB_1, lenX_s, zup_at, xgd, cond_true, cond_false, and_self, and_true, true_and, false_and, and_false, or_self, or_false, false_or, if_true, if_false, ite_true, ite_false, reduceIte, reduceCtorEq, Nat.reduceEqDiff, Nat.reduceAdd, Nat.reduceMul, Int.reduceNeg, Int.reduceAdd, Int.reduceSub, Int.reduceMul, Int.reduceLT, Int.reduceLE, Int.reduceEq, Int.reduceDiv, Int.reduceMod, Int.reduceToNat, Int.toNat_zero, Int.toNat_one, Nat.reduceLeDiff, Nat.reduceLT, ite_not, not_true, not_false_eq_true] <;> omega) | omega))) | (with_reducible apply xw_t; (case h => (first | (simp (disch := (first | exact hz _ _ | exact hv _ | exact hL | assumption | (simp (disch := decide) only [zup_ne]; exact hL) | (simp only [zR]; omega) | omega)) only [zLit, zI_div, hI_fs, hI_us, zI_add, zI_sub, zI_mul, zI_neg, zI_lt, zI_eq, zI_ite, xbd_s, zI_nat, zld, zst, zbd, zB_0, zB_1, lenX_s, zup_at, xgd, cond_true, cond_false, and_self, and_true, true_and, false_and, and_false, or_self, or_false, false_or, if_true, if_false, ite_true, ite_false, reduceIte, reduceCtorEq, Nat.reduceEqDiff, Nat.reduceAdd, Nat.reduceMul, Int.reduceNeg, Int.reduceAdd, Int.reduceSub, Int.reduceMul, Int.reduceLT, Int.reduceLE, Int.reduceEq, Int.reduceDiv, Int.reduceMod, Int.reduceToNat, Int.toNat_zero, Int.toNat_one, Nat.reduceLeDiff, Nat.reduceLT, ite_not, not_true, not_false_eq_true] <;> omega) | omega))) | (with_reducible apply xw_b; (case h => (simp (disch := (first | exact hz _ _ | exact hv _ | exact hL | assumption | (simp (disch := decide) only [zup_ne]; exact hL) | (simp only [zR]; omega) | omega)) only [zLit, zI_div, hI_fs, hI_us, zI_add, zI_sub, zI_mul, zI_neg, zI_lt, zI_eq, zI_ite, xbd_s, zI_nat, zld, zst, zbd, zB_0, zB_1, lenX_s, zup_at, xgd, cond_true, cond_false, and_self, and_true, true_and, false_and, and_false, or_self, or_false, false_or, if_true, if_false, ite_true, ite_false, reduceIte, reduceCtorEq, Nat.reduceEqDiff, Nat.reduceAdd, Nat.reduceMul, Int.reduceNeg, Int.reduceAdd, Int.reduceSub, Int.reduceMul, Int.reduceLT, Int.reduceLE, Int.reduceEq, Int.reduceDiv, Int.reduceMod, Int.reduceToNat, Int.toNat_zero, Int.toNat_one, Nat.reduceLeDiff, Nat.reduceLT, ite_not, not_true, not_false_eq_true, m_is]; rfl)); try dsimp only) | (with_reducible apply xw_c <;> intro q9 <;> (try simp (disch := (first | exact hz _ _ | exact hv _ | exact hL | assumption | (simp (disch := decide) only [zup_ne]; exact hL) | (simp only [zR]; omega) | omega)) only [zLit, zI_div, hI_fs, hI_us, zI_add, zI_sub, zI_mul, zI_neg, zI_lt, zI_eq, zI_ite, xbd_s, zI_nat, zld, zst, zbd, zB_0, zB_1, lenX_s, zup_at, xgd, cond_true, cond_false, and_self, and_true, true_and, false_and, and_false, or_self, or_false, false_or, if_true, if_false, ite_true, ite_false, reduceIte, reduceCtorEq, Nat.reduceEqDiff, Nat.reduceAdd, Nat.reduceMul, Int.reduceNeg, Int.reduceAdd, Int.reduceSub, Int.reduceMul, Int.reduceLT, Int.reduceLE, Int.reduceEq, Int.reduceDiv, Int.reduceMod, Int.reduceToNat, Int.toNat_zero, Int.toNat_one, Nat.reduceLeDiff, Nat.reduceLT, ite_not, not_true, not_false_eq_true] at q9)))
        rw [show (-1 : Int32) = zI (-1) by decide]
        have w1 : PWorld 1 z1 (z1 101) := PWorld_t hW (fun i i0 i1 => lo _ (by omega)) (fun k _ => by rw [e1])
        refine xw_k (m_flyPlanW 53 hz1 w1 qp1 (Or.inl rfl)) ?_
        intro r2 z2 hr2 hz2 ⟨x1, x2, x3, f2, g2⟩
        rw [e1] at x1 x2 x3
        have hTT : zR (spT (z 101) p (-1) : Int) := zR_s (by omega)
        have h30 : zR 30 := zR_s (by omega)
        have hmin : (if zI (spT (z 101) p (-1) : Int) < zI 30 then zI (spT (z 101) p (-1) : Int) else zI 30) = zI T := by rw [zI_ilt hTT h30, dT]
        obtain ⟨Z, dZ⟩ : ∃ Z, Z = zup z2 100 31 T := ⟨_, rfl⟩
        simp only [hI_fs, x2, zLit, hmin, hI_us]
        rw [← dZ]
        have yZ : zRR Z := by rw [dZ]; exact zRR_up hz2 _ _ hTr
        have fZ : fr [100, 108, 109] z1 Z := by rw [dZ]; exact fr_up f2 _ _ rfl
        have gZ : ff [5, 6, 7, 8, 16, 31] z1 Z := by rw [dZ]; exact ff_up (ff_mono g2 rfl) _ rfl
        have hlog : ∀ j : Int, 0 ≤ j → j < T → Z 108 j = chP (z 101) p j (traj (z 101) (chP (z 101) p) (spGives (z 101) (-1)) (crV (z 101)) j.toNat) ∧ Z 109 j = (traj (z 101) (chP (z 101) p) (spGives (z 101) (-1)) (crV (z 101)) (j.toNat + 1)).2.2.2 := by
          intro j j0 j1
          have w := x3 j.toNat (by omega)
          rw [Int.toNat_of_nonneg j0] at w
          rw [dZ, zup_ne _ _ _ (by decide), zup_ne _ _ _ (by decide)]
          exact w
        refine xw_m (m_prove_l 59 hT30 (A := fun j => chP (z 101) p j (traj (z 101) (chP (z 101) p) (spGives (z 101) (-1)) (crV (z 101)) j.toNat)) (H := fun j => (traj (z 101) (chP (z 101) p) (spGives (z 101) (-1)) (crV (z 101)) (j.toNat + 1)).2.2.2) T.toNat 0 Z yZ (by rw [dZ, zup_at, if_pos ⟨rfl, rfl⟩]) hlog (by omega) (by omega) (fun j j0 j1 => absurd j1 (by omega)) 999999 (by omega)) ?_
        intro r3 z3 _ _ ⟨y1, y2, y3⟩
        refine ⟨y1, fr_tr (fr_mono fZ (T := [100, 108, 109, 115]) rfl) (fr_mono y3 rfl) rfl, ?_, ?_, ?_⟩
        · intro k hk
          rw [y3 100 rfl]
          exact gZ k hk
        · rw [y3 100 rfl, dZ, zup_at, if_pos ⟨rfl, rfl⟩]
        · intro j hj
          exact y2 j (by omega) hj
      · intro r2 z2 hr2 hz2 ⟨e2, f2, g2, h31, h115⟩
        refine ⟨by rw [e2, e], ?_⟩
        have F : fr [45, 46, 47, 48, 68, 69, 100, 108, 109, 115] z z2 := fr_tr (fr_mono f (T := [45, 46, 47, 48, 68, 69, 100, 108, 109, 115]) rfl) (fr_mono f2 rfl) rfl
        have lo2 : ∀ o, o < 45 → z2 o = z o := fun o ho => F o ((by decide : ∀ o, o < 45 → [45, 46, 47, 48, 68, 69, 100, 108, 109, 115].elem o = false) o ho)
        have G : ∀ k, [5, 6, 7, 8, 16, 31].elem k = false → z2 100 k = z 100 k := fun k hk => by rw [g2 k hk, f 100 rfl]
        refine ⟨hz2, PWorld_t hW (fun i i0 i1 => lo2 _ (by omega)) (fun k _ => by rw [F 101 rfl]), PKept_t hK (by rw [lo2 0 (by omega)]) (G 2 rfl) (fun i i0 i1 => lo2 _ (by omega)) (F 102 rfl), PTape_t hT (by rw [F 55 rfl]) (G 4 rfl) (F 56 rfl) (F 103 rfl), ?_, PSheets_t hSh (fun i hi => F _ ((by decide : ∀ i, i < 8 → [45, 46, 47, 48, 68, 69, 100, 108, 109, 115].elem (73 + i) = false) i hi)) (F 117 rfl) (F 118 rfl) (F 119 rfl), PShelves_t hF (F 70 rfl) (F 71 rfl) (F 120 rfl) (F 121 rfl) (F 122 rfl), PTrace_t hCt (by rw [F 66 rfl]) (G 40 rfl) (F 67 rfl) (F 123 rfl)⟩
        refine ⟨by rw [f2 68 rfl, f2 47 rfl]; exact ⟨a0, a1, a2, a3⟩, by rw [f2 68 rfl, a4, h31], by rw [h31]; exact hT30, fun k k0 k1 => ?_⟩
        rw [h31] at k1
        rw [f2 69 rfl]
        have hj : ((k / 2).toNat : Int) = k / 2 := Int.toNat_of_nonneg (by omega)
        have w1 := a5 (k / 2).toNat (by omega)
        have w2 := h115 (k / 2).toNat (by omega)
        rw [hj] at w1 w2
        rcases (show k = 2 * (k / 2) ∨ k = 2 * (k / 2) + 1 by omega) with ek | ek
        · rw [ek, w1.1, w2.1]
        · rw [ek, w1.2, w2.2]
  · refine two_ro hI0 (-1) (by simp only [zR]; omega) ?_ ?_
    · rw [e_X11_prove]
      repeat' (first | (with_reducible apply hs_f; (case h => (first | (simp (disch := (first | exact hz _ _ | exact hv _ | exact hL | assumption | (simp (disch := decide) only [zup_ne]; exact hL) | (simp only [zR]; omega) | omega)) only [zLit, zI_div, hI_fs, hI_us, zI_add, zI_sub, zI_mul, zI_neg, zI_lt, zI_eq, zI_ite, xbd_s, zI_nat, zld, zst, zbd, zB_0, zB_1, lenX_s, zup_at, xgd, cond_true, cond_false, and_self, and_true, true_and, false_and, and_false, or_self, or_false, false_or, if_true, if_false, ite_true, ite_false, reduceIte, reduceCtorEq, Nat.reduceEqDiff, Nat.reduceAdd, Nat.reduceMul, Int.reduceNeg, Int.reduceAdd, Int.reduceSub, Int.reduceMul, Int.reduceLT, Int.reduceLE, Int.reduceEq, Int.reduceDiv, Int.reduceMod, Int.reduceToNat, Int.toNat_zero, Int.toNat_one, Nat.reduceLeDiff, Nat.reduceLT, ite_not, not_true, not_false_eq_true, r9] <;> omega) | omega))) | (with_reducible apply hs_t; (case h => (first | (simp (disch := (first | exact hz _ _ | exact hv _ | exact hL | assumption | (simp (disch := decide) only [zup_ne]; exact hL) | (simp only [zR]; omega) | omega)) only [zLit, zI_div, hI_fs, hI_us, zI_add, zI_sub, zI_mul, zI_neg, zI_lt, zI_eq, zI_ite, xbd_s, zI_nat, zld, zst, zbd, zB_0, zB_1, lenX_s, zup_at, xgd, cond_true, cond_false, and_self, and_true, true_and, false_and, and_false, or_self, or_false, false_or, if_true, if_false, ite_true, ite_false, reduceIte, reduceCtorEq, Nat.reduceEqDiff, Nat.reduceAdd, Nat.reduceMul, Int.reduceNeg, Int.reduceAdd, Int.reduceSub, Int.reduceMul, Int.reduceLT, Int.reduceLE, Int.reduceEq, Int.reduceDiv, Int.reduceMod, Int.reduceToNat, Int.toNat_zero, Int.toNat_one, Nat.reduceLeDiff, Nat.reduceLT, ite_not, not_true, not_false_eq_true, r9] <;> omega) | omega))) | (with_reducible apply hs_b; (case h => (simp (disch := (first | exact hz _ _ | exact hv _ | exact hL | assumption | (simp (disch := decide) only [zup_ne]; exact hL) | (simp only [zR]; omega) | omega)) only [zLit, zI_div, hI_fs, hI_us, zI_add, zI_sub, zI_mul, zI_neg, zI_lt, zI_eq, zI_ite, xbd_s, zI_nat, zld, zst, zbd, zB_0, zB_1, lenX_s, zup_at, xgd, cond_true, cond_false, and_self, and_true, true_and, false_and, and_false, or_self, or_false, false_or, if_true, if_false, ite_true, ite_false, reduceIte, reduceCtorEq, Nat.reduceEqDiff, Nat.reduceAdd, Nat.reduceMul, Int.reduceNeg, Int.reduceAdd, Int.reduceSub, Int.reduceMul, Int.reduceLT, Int.reduceLE, Int.reduceEq, Int.reduceDiv, Int.reduceMod, Int.reduceToNat, Int.toNat_zero, Int.toNat_one, Nat.reduceLeDiff, Nat.reduceLT, ite_not, not_true, not_false_eq_true, r9, c_rHas]; rfl)); try dsimp only) | (with_reducible apply hs_c <;> intro q9 <;> (try simp (disch := (first | exact hz _ _ | exact hv _ | exact hL | assumption | (simp (disch := decide) only [zup_ne]; exact hL) | (simp only [zR]; omega) | omega)) only [zLit, zI_div, hI_fs, hI_us, zI_add, zI_sub, zI_mul, zI_neg, zI_lt, zI_eq, zI_ite, xbd_s, zI_nat, zld, zst, zbd, zB_0, zB_1, lenX_s, zup_at, xgd, cond_true, cond_false, and_self, and_true, true_and, false_and, and_false, or_self, or_false, false_or, if_true, if_false, ite_true, ite_false, reduceIte, reduceCtorEq, Nat.reduceEqDiff, Nat.reduceAdd, Nat.reduceMul, Int.reduceNeg, Int.reduceAdd, Int.reduceSub, Int.reduceMul, Int.reduceLT, Int.reduceLE, Int.reduceEq, Int.reduceDiv, Int.reduceMod, Int.reduceToNat, Int.toNat_zero, Int.toNat_one, Nat.reduceLeDiff, Nat.reduceLT, ite_not, not_true, not_false_eq_true, r9] at q9)))
      all_goals first | rfl | omega | (simp (maxSteps := 3000000) (disch := (first | exact hz _ _ | exact hv _ | exact hL | assumption | (simp (disch := decide) only [zup_ne]; exact hL) | (simp only [zR]; omega) | omega)) only [zLit, zI_div, hI_fs, hI_us, zI_add, zI_sub, zI_mul, zI_neg, zI_lt, zI_eq, zI_ite, xbd_s, zI_nat, zld, zst, zbd, zB_0, zB_1, lenX_s, zup_at, xgd, cond_true, cond_false, and_self, and_true, true_and, false_and, and_false, or_self, or_false, false_or, if_true, if_false, ite_true, ite_false, reduceIte, reduceCtorEq, Nat.reduceEqDiff, Nat.reduceAdd, Nat.reduceMul, Int.reduceNeg, Int.reduceAdd, Int.reduceSub, Int.reduceMul, Int.reduceLT, Int.reduceLE, Int.reduceEq, Int.reduceDiv, Int.reduceMod, Int.reduceToNat, Int.toNat_zero, Int.toNat_one, Nat.reduceLeDiff, Nat.reduceLT, ite_not, not_true, not_false_eq_true]; done) | (simp (maxSteps := 3000000) (disch := (first | exact hz _ _ | exact hv _ | exact hL | assumption | (simp (disch := decide) only [zup_ne]; exact hL) | (simp only [zR]; omega) | omega)) only [zLit, zI_div, hI_fs, hI_us, zI_add, zI_sub, zI_mul, zI_neg, zI_lt, zI_eq, zI_ite, xbd_s, zI_nat, zld, zst, zbd, zB_0, zB_1, lenX_s, zup_at, xgd, cond_true, cond_false, and_self, and_true, true_and, false_and, and_false, or_self, or_false, false_or, if_true, if_false, ite_true, ite_false, reduceIte, reduceCtorEq, Nat.reduceEqDiff, Nat.reduceAdd, Nat.reduceMul, Int.reduceNeg, Int.reduceAdd, Int.reduceSub, Int.reduceMul, Int.reduceLT, Int.reduceLE, Int.reduceEq, Int.reduceDiv, Int.reduceMod, Int.reduceToNat, Int.toNat_zero, Int.toNat_one, Nat.reduceLeDiff, Nat.reduceLT, ite_not, not_true, not_false_eq_true]; rfl)
    · rw [e_X12_prove, show xF = 999999 + 1 from rfl, l_X12_prove_0]
      repeat' (first | (with_reducible apply hs_f; (case h => (first | (simp (disch := (first | exact hz _ _ | exact hv _ | exact hL | assumption | (simp (disch := decide) only [zup_ne]; exact hL) | (simp only [zR]; omega) | omega)) only [zLit, zI_div, hI_fs, hI_us, zI_add, zI_sub, zI_mul, zI_neg, zI_lt, zI_eq, zI_ite, xbd_s, zI_nat, zld, zst, zbd, zB_0, zB_1, lenX_s, zup_at, xgd, cond_true, cond_false, and_self, and_true, true_and, false_and, and_false, or_self, or_false, false_or, if_true, if_false, ite_true, ite_false, reduceIte, reduceCtorEq, Nat.reduceEqDiff, Nat.reduceAdd, Nat.reduceMul, Int.reduceNeg, Int.reduceAdd, Int.reduceSub, Int.reduceMul, Int.reduceLT, Int.reduceLE, Int.reduceEq, Int.reduceDiv, Int.reduceMod, Int.reduceToNat, Int.toNat_zero, Int.toNat_one, Nat.reduceLeDiff, Nat.reduceLT, ite_not, not_true, not_false_eq_true] <;> omega) | omega))) | (with_reducible apply hs_t; (case h => (first | (simp (disch := (first | exact hz _ _ | exact hv _ | exact hL | assumption | (simp (disch := decide) only [zup_ne]; exact hL) | (simp only [zR]; omega) | omega)) only [zLit, zI_div, hI_fs, hI_us, zI_add, zI_sub, zI_mul, zI_neg, zI_lt, zI_eq, zI_ite, xbd_s, zI_nat, zld, zst, zbd, zB_0, zB_1, lenX_s, zup_at, xgd, cond_true, cond_false, and_self, and_true, true_and, false_and, and_false, or_self, or_false, false_or, if_true, if_false, ite_true, ite_false, reduceIte, reduceCtorEq, Nat.reduceEqDiff, Nat.reduceAdd, Nat.reduceMul, Int.reduceNeg, Int.reduceAdd, Int.reduceSub, Int.reduceMul, Int.reduceLT, Int.reduceLE, Int.reduceEq, Int.reduceDiv, Int.reduceMod, Int.reduceToNat, Int.toNat_zero, Int.toNat_one, Nat.reduceLeDiff, Nat.reduceLT, ite_not, not_true, not_false_eq_true] <;> omega) | omega))) | (with_reducible apply hs_b; (case h => (simp (disch := (first | exact hz _ _ | exact hv _ | exact hL | assumption | (simp (disch := decide) only [zup_ne]; exact hL) | (simp only [zR]; omega) | omega)) only [zLit, zI_div, hI_fs, hI_us, zI_add, zI_sub, zI_mul, zI_neg, zI_lt, zI_eq, zI_ite, xbd_s, zI_nat, zld, zst, zbd, zB_0, zB_1, lenX_s, zup_at, xgd, cond_true, cond_false, and_self, and_true, true_and, false_and, and_false, or_self, or_false, false_or, if_true, if_false, ite_true, ite_false, reduceIte, reduceCtorEq, Nat.reduceEqDiff, Nat.reduceAdd, Nat.reduceMul, Int.reduceNeg, Int.reduceAdd, Int.reduceSub, Int.reduceMul, Int.reduceLT, Int.reduceLE, Int.reduceEq, Int.reduceDiv, Int.reduceMod, Int.reduceToNat, Int.toNat_zero, Int.toNat_one, Nat.reduceLeDiff, Nat.reduceLT, ite_not, not_true, not_false_eq_true, m_is]; rfl)); try dsimp only) | (with_reducible apply hs_c <;> intro q9 <;> (try simp (disch := (first | exact hz _ _ | exact hv _ | exact hL | assumption | (simp (disch := decide) only [zup_ne]; exact hL) | (simp only [zR]; omega) | omega)) only [zLit, zI_div, hI_fs, hI_us, zI_add, zI_sub, zI_mul, zI_neg, zI_lt, zI_eq, zI_ite, xbd_s, zI_nat, zld, zst, zbd, zB_0, zB_1, lenX_s, zup_at, xgd, cond_true, cond_false, and_self, and_true, true_and, false_and, and_false, or_self, or_false, false_or, if_true, if_false, ite_true, ite_false, reduceIte, reduceCtorEq, Nat.reduceEqDiff, Nat.reduceAdd, Nat.reduceMul, Int.reduceNeg, Int.reduceAdd, Int.reduceSub, Int.reduceMul, Int.reduceLT, Int.reduceLE, Int.reduceEq, Int.reduceDiv, Int.reduceMod, Int.reduceToNat, Int.toNat_zero, Int.toNat_one, Nat.reduceLeDiff, Nat.reduceLT, ite_not, not_true, not_false_eq_true] at q9)))
      all_goals first | rfl | omega | (simp (maxSteps := 3000000) (disch := (first | exact hz _ _ | exact hv _ | exact hL | assumption | (simp (disch := decide) only [zup_ne]; exact hL) | (simp only [zR]; omega) | omega)) only [zLit, zI_div, hI_fs, hI_us, zI_add, zI_sub, zI_mul, zI_neg, zI_lt, zI_eq, zI_ite, xbd_s, zI_nat, zld, zst, zbd, zB_0, zB_1, lenX_s, zup_at, xgd, cond_true, cond_false, and_self, and_true, true_and, false_and, and_false, or_self, or_false, false_or, if_true, if_false, ite_true, ite_false, reduceIte, reduceCtorEq, Nat.reduceEqDiff, Nat.reduceAdd, Nat.reduceMul, Int.reduceNeg, Int.reduceAdd, Int.reduceSub, Int.reduceMul, Int.reduceLT, Int.reduceLE, Int.reduceEq, Int.reduceDiv, Int.reduceMod, Int.reduceToNat, Int.toNat_zero, Int.toNat_one, Nat.reduceLeDiff, Nat.reduceLT, ite_not, not_true, not_false_eq_true]; done) | (simp (maxSteps := 3000000) (disch := (first | exact hz _ _ | exact hv _ | exact hL | assumption | (simp (disch := decide) only [zup_ne]; exact hL) | (simp only [zR]; omega) | omega)) only [zLit, zI_div, hI_fs, hI_us, zI_add, zI_sub, zI_mul, zI_neg, zI_lt, zI_eq, zI_ite, xbd_s, zI_nat, zld, zst, zbd, zB_0, zB_1, lenX_s, zup_at, xgd, cond_true, cond_false, and_self, and_true, true_and, false_and, and_false, or_self, or_false, false_or, if_true, if_false, ite_true, ite_false, reduceIte, reduceCtorEq, Nat.reduceEqDiff, Nat.reduceAdd, Nat.reduceMul, Int.reduceNeg, Int.reduceAdd, Int.reduceSub, Int.reduceMul, Int.reduceLT, Int.reduceLE, Int.reduceEq, Int.reduceDiv, Int.reduceMod, Int.reduceToNat, Int.toNat_zero, Int.toNat_one, Nat.reduceLeDiff, Nat.reduceLT, ite_not, not_true, not_false_eq_true]; rfl)
