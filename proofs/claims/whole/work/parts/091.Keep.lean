/-! PURE, part 21: keep, again -/
theorem zcp_df (z : zH) (a b : Nat) (n : Int) (p : Nat) (q : Int) : zcp z a b n p q = if p = b ∧ 0 ≤ q ∧ q < n then z a q else z p q := rfl
theorem zcp_l (z : zH) (a b : Nat) : xcp (hI z) a 0 b 0 64 = hI (zcp z a b 64) ∧ xcp (hI z) a 0 b 0 9 = hI (zcp z a b 9) ∧ xcp (hI z) a 0 b 0 10 = hI (zcp z a b 10) ∧ xcp (hI z) a 0 b 0 240 = hI (zcp z a b 240) := ⟨zcp_I z a b 64, zcp_I z a b 9, zcp_I z a b 10, zcp_I z a b 240⟩
theorem zcp_0 (z : zH) (a b : Nat) : zcp z a b 0 = z := by
  funext p q
  unfold zcp
  rw [if_neg (by omega)]
theorem zcp_up (z : zH) {a b : Nat} {n : Int} (h : 0 ≤ n) : zup (zcp z a b n) b n (z a n) = zcp z a b (n + 1) := by
  funext p q
  unfold zup zcp
  by_cases h1 : p = b ∧ q = n
  · rw [if_pos h1, if_pos ⟨h1.1, by omega, by omega⟩, h1.2]
  · rw [if_neg h1]
    by_cases h2 : p = b ∧ 0 ≤ q ∧ q < n
    · rw [if_pos h2, if_pos ⟨h2.1, by omega, by omega⟩]
    · rw [if_neg h2, if_neg (fun w => by
        by_cases hq : q = n
        · exact h1 ⟨w.1, hq⟩
        · exact h2 ⟨w.1, w.2.1, by omega⟩)]
theorem c_lcp_23_1 (d : Nat) (z : zH) : cM (d + 1) 45 [xR 21 24, xR 21 2] (hI z) = some (zI 0, hI (zcp (zcp (zcp (zup (zup z 24 0 (z 2 0)) 24 1 (z 2 1)) 3 25 64) 4 26 64) 5 27 9)) := by
  rw [e_X5_become]
  simp (maxSteps := 3000000) (disch := (first | exact hz _ _ | exact hv _ | exact hL | assumption | (simp (disch := decide) only [zup_ne]; exact hL) | (simp only [zR]; omega) | omega)) only [zLit, zI_div, hI_fs, hI_us, zI_add, zI_sub, zI_mul, zI_neg, zI_lt, zI_eq, zI_ite, xbd_s, zI_nat, zld, zst, zbd, zB_0, zB_1, lenX_s, zup_at, xgd, cond_true, cond_false, and_self, and_true, true_and, false_and, and_false, or_self, or_false, false_or, if_true, if_false, ite_true, ite_false, reduceIte, reduceCtorEq, Nat.reduceEqDiff, Nat.reduceAdd, Nat.reduceMul, Int.reduceNeg, Int.reduceAdd, Int.reduceSub, Int.reduceMul, Int.reduceLT, Int.reduceLE, Int.reduceEq, Int.reduceDiv, Int.reduceMod, Int.reduceToNat, Int.toNat_zero, Int.toNat_one, Nat.reduceLeDiff, Nat.reduceLT, ite_not, not_true, not_false_eq_true, zcp_l]
theorem c_ccp_23_1 (d : Nat) (z : zH) : cM (d + 1) 15 [xR 18 28, xR 18 6] (hI z) = some (zI 0, hI (zup (zup (zup (zup (zup (z) 28 0 (z 6 0)) 28 1 (z 6 1)) 28 2 (z 6 2)) 28 3 (z 6 3)) 28 4 (z 6 4))) := by
  rw [e_X2_become_]
  simp (maxSteps := 3000000) (disch := (first | exact hz _ _ | exact hv _ | exact hL | assumption | (simp (disch := decide) only [zup_ne]; exact hL) | (simp only [zR]; omega) | omega)) only [zLit, zI_div, hI_fs, hI_us, zI_add, zI_sub, zI_mul, zI_neg, zI_lt, zI_eq, zI_ite, xbd_s, zI_nat, zld, zst, zbd, zB_0, zB_1, lenX_s, zup_at, xgd, cond_true, cond_false, and_self, and_true, true_and, false_and, and_false, or_self, or_false, false_or, if_true, if_false, ite_true, ite_false, reduceIte, reduceCtorEq, Nat.reduceEqDiff, Nat.reduceAdd, Nat.reduceMul, Int.reduceNeg, Int.reduceAdd, Int.reduceSub, Int.reduceMul, Int.reduceLT, Int.reduceLE, Int.reduceEq, Int.reduceDiv, Int.reduceMod, Int.reduceToNat, Int.toNat_zero, Int.toNat_one, Nat.reduceLeDiff, Nat.reduceLT, ite_not, not_true, not_false_eq_true]
theorem c_hcp_23_1 (d : Nat) (z : zH) : cM (d + 1) 30 [xR 20 35, xR 20 13] (hI z) = some (zI 0, hI (zup (zcp (zcp (zcp z 14 36 9) 15 37 10) 16 38 240) 35 3 (z 13 3))) := by
  rw [e_X4_become]
  simp (maxSteps := 3000000) (disch := (first | exact hz _ _ | exact hv _ | exact hL | assumption | (simp (disch := decide) only [zup_ne]; exact hL) | (simp only [zR]; omega) | omega)) only [zLit, hI_fs, hI_us, zI_nat, zI_lt, lenX_s, Int.toNat_zero, Int.reduceToNat, Nat.reduceAdd, Int.reduceLT, or_self, if_false, zcp_l, Nat.reduceLT, Nat.lt_irrefl]
  simp only [zcp_ne _ _ (show (13 : Nat) ≠ 38 by decide), zcp_ne _ _ (show (13 : Nat) ≠ 37 by decide), zcp_ne _ _ (show (13 : Nat) ≠ 36 by decide)]
def WCop_23_1 (z Z : zH) : Prop := Z 24 0 = z 2 0 ∧ Z 24 1 = z 2 1 ∧ (∀ k, 0 ≤ k → k < 64 → Z 25 k = z 3 k) ∧ (∀ k, 0 ≤ k → k < 64 → Z 26 k = z 4 k) ∧ (∀ k, 0 ≤ k → k < 9 → Z 27 k = z 5 k) ∧ (∀ k, 0 ≤ k → k < 5 → Z 28 k = z 6 k) ∧ Z 29 0 = z 29 0 ∧ Z 29 1 = z 29 1 ∧ Z 29 3 = z 7 3 ∧ (∀ k, 0 ≤ k → k < 40 → Z 30 k = z 8 k) ∧ Z 31 0 = z 31 0 ∧ Z 31 1 = z 31 1 ∧ Z 31 3 = z 9 3 ∧ (∀ k, 0 ≤ k → k < 84 → Z 32 k = z 10 k) ∧ Z 33 0 = z 33 0 ∧ Z 33 1 = z 33 1 ∧ Z 33 3 = z 11 3 ∧ (∀ k, 0 ≤ k → k < 20 → Z 34 k = z 12 k) ∧ Z 39 0 = z 39 0 ∧ Z 39 1 = z 39 1 ∧ Z 39 3 = z 17 3 ∧ (∀ k, 0 ≤ k → k < 21 → Z 40 k = z 18 k) ∧ Z 41 0 = z 41 0 ∧ Z 41 1 = z 41 1 ∧ Z 41 3 = z 19 3 ∧ (∀ k, 0 ≤ k → k < 8 → Z 42 k = z 20 k) ∧ Z 43 0 = z 43 0 ∧ Z 43 1 = z 43 1 ∧ Z 43 3 = z 21 3 ∧ (∀ k, 0 ≤ k → k < 60 → Z 44 k = z 22 k) ∧ Z 35 3 = z 13 3 ∧ (∀ k, 0 ≤ k → k < 9 → Z 36 k = z 14 k) ∧ (∀ k, 0 ≤ k → k < 10 → Z 37 k = z 15 k) ∧ (∀ k, 0 ≤ k → k < 240 → Z 38 k = z 16 k)
theorem c_wcp_23_1 {z : zH} (hz : zRR z) : ∃ Z, (∀ d, cM (d + 2) 88 [xR 26 23, xR 26 1] (hI z) = some (zI 0, hI Z)) ∧ zRR Z ∧ fr [24, 25, 26, 27, 28, 29, 30, 31, 32, 33, 34, 35, 36, 37, 38, 39, 40, 41, 42, 43, 44] z Z ∧ WCop_23_1 z Z := by
  obtain ⟨Z1, d1⟩ : ∃ Z, Z = zcp (zcp (zcp (zup (zup z 24 0 (z 2 0)) 24 1 (z 2 1)) 3 25 64) 4 26 64) 5 27 9 := ⟨_, rfl⟩
  have e1 := fun d => c_lcp_23_1 d z
  rw [← d1] at e1
  have y1 : zRR Z1 := by rw [d1]; exact zRR_cp (zRR_cp (zRR_cp (zRR_up (zRR_up hz _ _ (hz _ _)) _ _ (hz _ _)) _ _ _) _ _ _) _ _ _
  have f1 : fr [24, 25, 26, 27, 28, 29, 30, 31, 32, 33, 34, 35, 36, 37, 38, 39, 40, 41, 42, 43, 44] z Z1 := by rw [d1]; exact fr_cp (fr_cp (fr_cp (fr_up (fr_up (fr_rf _ _) _ _ rfl) _ _ rfl) _ _ rfl) _ _ rfl) _ _ rfl
  obtain ⟨Z2, d2⟩ : ∃ Z, Z = zup (zup (zup (zup (zup (Z1) 28 0 (Z1 6 0)) 28 1 (Z1 6 1)) 28 2 (Z1 6 2)) 28 3 (Z1 6 3)) 28 4 (Z1 6 4) := ⟨_, rfl⟩
  have e2 := fun d => c_ccp_23_1 d Z1
  rw [← d2] at e2
  have y2 : zRR Z2 := by rw [d2]; exact zRR_up (zRR_up (zRR_up (zRR_up (zRR_up y1 _ _ (y1 _ _)) _ _ (y1 _ _)) _ _ (y1 _ _)) _ _ (y1 _ _)) _ _ (y1 _ _)
  have f2 : fr [24, 25, 26, 27, 28, 29, 30, 31, 32, 33, 34, 35, 36, 37, 38, 39, 40, 41, 42, 43, 44] Z1 Z2 := by rw [d2]; exact fr_up (fr_up (fr_up (fr_up (fr_up (fr_rf _ _) _ _ rfl) _ _ rfl) _ _ rfl) _ _ rfl) _ _ rfl
  obtain ⟨Z3, d3⟩ : ∃ Z, Z = zup (zcp Z2 8 30 40) 29 3 (Z2 7 3) := ⟨_, rfl⟩
  have e3 : ∀ d, cM (d + 1) 61 [xR 23 29, xR 23 7] (hI Z2) = some (zI 0, hI (zup (zcp Z2 8 30 40) 29 3 (Z2 7 3))) := fun d => c_rCopy d (z := Z2) (o1 := 29) (o2 := 7) (n := 40) rfl rfl (by omega) (by omega)
  rw [← d3] at e3
  have y3 : zRR Z3 := by rw [d3]; exact zRR_up (zRR_cp y2 _ _ _) _ _ (y2 _ _)
  have f3 : fr [24, 25, 26, 27, 28, 29, 30, 31, 32, 33, 34, 35, 36, 37, 38, 39, 40, 41, 42, 43, 44] Z2 Z3 := by rw [d3]; exact fr_up (fr_cp (fr_rf _ _) _ _ rfl) _ _ rfl
  obtain ⟨Z4, d4⟩ : ∃ Z, Z = zup (zcp Z3 10 32 84) 31 3 (Z3 9 3) := ⟨_, rfl⟩
  have e4 : ∀ d, cM (d + 1) 61 [xR 23 31, xR 23 9] (hI Z3) = some (zI 0, hI (zup (zcp Z3 10 32 84) 31 3 (Z3 9 3))) := fun d => c_rCopy d (z := Z3) (o1 := 31) (o2 := 9) (n := 84) rfl rfl (by omega) (by omega)
  rw [← d4] at e4
  have y4 : zRR Z4 := by rw [d4]; exact zRR_up (zRR_cp y3 _ _ _) _ _ (y3 _ _)
  have f4 : fr [24, 25, 26, 27, 28, 29, 30, 31, 32, 33, 34, 35, 36, 37, 38, 39, 40, 41, 42, 43, 44] Z3 Z4 := by rw [d4]; exact fr_up (fr_cp (fr_rf _ _) _ _ rfl) _ _ rfl
  obtain ⟨Z5, d5⟩ : ∃ Z, Z = zup (zcp Z4 12 34 20) 33 3 (Z4 11 3) := ⟨_, rfl⟩
  have e5 : ∀ d, cM (d + 1) 61 [xR 23 33, xR 23 11] (hI Z4) = some (zI 0, hI (zup (zcp Z4 12 34 20) 33 3 (Z4 11 3))) := fun d => c_rCopy d (z := Z4) (o1 := 33) (o2 := 11) (n := 20) rfl rfl (by omega) (by omega)
  rw [← d5] at e5
  have y5 : zRR Z5 := by rw [d5]; exact zRR_up (zRR_cp y4 _ _ _) _ _ (y4 _ _)
  have f5 : fr [24, 25, 26, 27, 28, 29, 30, 31, 32, 33, 34, 35, 36, 37, 38, 39, 40, 41, 42, 43, 44] Z4 Z5 := by rw [d5]; exact fr_up (fr_cp (fr_rf _ _) _ _ rfl) _ _ rfl
  obtain ⟨Z6, d6⟩ : ∃ Z, Z = zup (zcp (zcp (zcp Z5 14 36 9) 15 37 10) 16 38 240) 35 3 (Z5 13 3) := ⟨_, rfl⟩
  have e6 := fun d => c_hcp_23_1 d Z5
  rw [← d6] at e6
  have y6 : zRR Z6 := by rw [d6]; exact zRR_up (zRR_cp (zRR_cp (zRR_cp y5 _ _ _) _ _ _) _ _ _) _ _ (y5 _ _)
  have f6 : fr [24, 25, 26, 27, 28, 29, 30, 31, 32, 33, 34, 35, 36, 37, 38, 39, 40, 41, 42, 43, 44] Z5 Z6 := by rw [d6]; exact fr_up (fr_cp (fr_cp (fr_cp (fr_rf _ _) _ _ rfl) _ _ rfl) _ _ rfl) _ _ rfl
  obtain ⟨Z7, d7⟩ : ∃ Z, Z = zup (zcp Z6 18 40 21) 39 3 (Z6 17 3) := ⟨_, rfl⟩
  have e7 : ∀ d, cM (d + 1) 61 [xR 23 39, xR 23 17] (hI Z6) = some (zI 0, hI (zup (zcp Z6 18 40 21) 39 3 (Z6 17 3))) := fun d => c_rCopy d (z := Z6) (o1 := 39) (o2 := 17) (n := 21) rfl rfl (by omega) (by omega)
  rw [← d7] at e7
  have y7 : zRR Z7 := by rw [d7]; exact zRR_up (zRR_cp y6 _ _ _) _ _ (y6 _ _)
  have f7 : fr [24, 25, 26, 27, 28, 29, 30, 31, 32, 33, 34, 35, 36, 37, 38, 39, 40, 41, 42, 43, 44] Z6 Z7 := by rw [d7]; exact fr_up (fr_cp (fr_rf _ _) _ _ rfl) _ _ rfl
  obtain ⟨Z8, d8⟩ : ∃ Z, Z = zup (zcp Z7 20 42 8) 41 3 (Z7 19 3) := ⟨_, rfl⟩
  have e8 : ∀ d, cM (d + 1) 61 [xR 23 41, xR 23 19] (hI Z7) = some (zI 0, hI (zup (zcp Z7 20 42 8) 41 3 (Z7 19 3))) := fun d => c_rCopy d (z := Z7) (o1 := 41) (o2 := 19) (n := 8) rfl rfl (by omega) (by omega)
  rw [← d8] at e8
  have y8 : zRR Z8 := by rw [d8]; exact zRR_up (zRR_cp y7 _ _ _) _ _ (y7 _ _)
  have f8 : fr [24, 25, 26, 27, 28, 29, 30, 31, 32, 33, 34, 35, 36, 37, 38, 39, 40, 41, 42, 43, 44] Z7 Z8 := by rw [d8]; exact fr_up (fr_cp (fr_rf _ _) _ _ rfl) _ _ rfl
  obtain ⟨Z9, d9⟩ : ∃ Z, Z = zup (zcp Z8 22 44 60) 43 3 (Z8 21 3) := ⟨_, rfl⟩
  have e9 : ∀ d, cM (d + 1) 61 [xR 23 43, xR 23 21] (hI Z8) = some (zI 0, hI (zup (zcp Z8 22 44 60) 43 3 (Z8 21 3))) := fun d => c_rCopy d (z := Z8) (o1 := 43) (o2 := 21) (n := 60) rfl rfl (by omega) (by omega)
  rw [← d9] at e9
  have y9 : zRR Z9 := by rw [d9]; exact zRR_up (zRR_cp y8 _ _ _) _ _ (y8 _ _)
  have f9 : fr [24, 25, 26, 27, 28, 29, 30, 31, 32, 33, 34, 35, 36, 37, 38, 39, 40, 41, 42, 43, 44] Z8 Z9 := by rw [d9]; exact fr_up (fr_cp (fr_rf _ _) _ _ rfl) _ _ rfl
  refine ⟨Z9, fun d => ?_, y9, ?_, ?_⟩
  · rw [e_X10_become]
    simp only [Nat.reduceAdd]
    rw [e1, xbd_s, e2, xbd_s, e3, xbd_s, e4, xbd_s, e5, xbd_s, e6, xbd_s, e7, xbd_s, e8, xbd_s, e9]
    rfl
  · exact fr_tr (fr_tr (fr_tr (fr_tr (fr_tr (fr_tr (fr_tr (fr_tr (f1) f2 rfl) f3 rfl) f4 rfl) f5 rfl) f6 rfl) f7 rfl) f8 rfl) f9 rfl
  · unfold WCop_23_1
    clear e1 y1 f1 e2 y2 f2 e3 y3 f3 e4 y4 f4 e5 y5 f5 e6 y6 f6 e7 y7 f7 e8 y8 f8 e9 y9 f9
    refine ⟨?_, ?_, ?_, ?_, ?_, ?_, ?_, ?_, ?_, ?_, ?_, ?_, ?_, ?_, ?_, ?_, ?_, ?_, ?_, ?_, ?_, ?_, ?_, ?_, ?_, ?_, ?_, ?_, ?_, ?_, ?_, ?_, ?_, ?_⟩
    · simp only [d9, d8, d7, d6, d5, d4, d3, d2, d1, zup_at, zcp_df, true_and, false_and, and_self, and_true, and_false, if_true, if_false, reduceIte, reduceCtorEq, Nat.reduceEqDiff, Int.reduceEq, Int.reduceLT, Int.reduceLE]
    · simp only [d9, d8, d7, d6, d5, d4, d3, d2, d1, zup_at, zcp_df, true_and, false_and, and_self, and_true, and_false, if_true, if_false, reduceIte, reduceCtorEq, Nat.reduceEqDiff, Int.reduceEq, Int.reduceLT, Int.reduceLE]
    · intro k k0 k1
      simp only [d9, d8, d7, d6, d5, d4, d3, d2, d1, zup_at, zcp_df, true_and, false_and, and_self, and_true, and_false, if_true, if_false, reduceIte, reduceCtorEq, Nat.reduceEqDiff, Int.reduceEq, Int.reduceLT, Int.reduceLE, k0, k1]
    · intro k k0 k1
      simp only [d9, d8, d7, d6, d5, d4, d3, d2, d1, zup_at, zcp_df, true_and, false_and, and_self, and_true, and_false, if_true, if_false, reduceIte, reduceCtorEq, Nat.reduceEqDiff, Int.reduceEq, Int.reduceLT, Int.reduceLE, k0, k1]
    · intro k k0 k1
      simp only [d9, d8, d7, d6, d5, d4, d3, d2, d1, zup_at, zcp_df, true_and, false_and, and_self, and_true, and_false, if_true, if_false, reduceIte, reduceCtorEq, Nat.reduceEqDiff, Int.reduceEq, Int.reduceLT, Int.reduceLE, k0, k1]
    · intro k k0 k1
      rcases (show k = 0 ∨ k = 1 ∨ k = 2 ∨ k = 3 ∨ k = 4 by omega) with q | q | q | q | q <;> subst q <;> simp only [d9, d8, d7, d6, d5, d4, d3, d2, d1, zup_at, zcp_df, true_and, false_and, and_self, and_true, and_false, if_true, if_false, reduceIte, reduceCtorEq, Nat.reduceEqDiff, Int.reduceEq, Int.reduceLT, Int.reduceLE]
    · simp only [d9, d8, d7, d6, d5, d4, d3, d2, d1, zup_at, zcp_df, true_and, false_and, and_self, and_true, and_false, if_true, if_false, reduceIte, reduceCtorEq, Nat.reduceEqDiff, Int.reduceEq, Int.reduceLT, Int.reduceLE]
    · simp only [d9, d8, d7, d6, d5, d4, d3, d2, d1, zup_at, zcp_df, true_and, false_and, and_self, and_true, and_false, if_true, if_false, reduceIte, reduceCtorEq, Nat.reduceEqDiff, Int.reduceEq, Int.reduceLT, Int.reduceLE]
    · simp only [d9, d8, d7, d6, d5, d4, d3, d2, d1, zup_at, zcp_df, true_and, false_and, and_self, and_true, and_false, if_true, if_false, reduceIte, reduceCtorEq, Nat.reduceEqDiff, Int.reduceEq, Int.reduceLT, Int.reduceLE]
    · intro k k0 k1
      simp only [d9, d8, d7, d6, d5, d4, d3, d2, d1, zup_at, zcp_df, true_and, false_and, and_self, and_true, and_false, if_true, if_false, reduceIte, reduceCtorEq, Nat.reduceEqDiff, Int.reduceEq, Int.reduceLT, Int.reduceLE, k0, k1]
    · simp only [d9, d8, d7, d6, d5, d4, d3, d2, d1, zup_at, zcp_df, true_and, false_and, and_self, and_true, and_false, if_true, if_false, reduceIte, reduceCtorEq, Nat.reduceEqDiff, Int.reduceEq, Int.reduceLT, Int.reduceLE]
    · simp only [d9, d8, d7, d6, d5, d4, d3, d2, d1, zup_at, zcp_df, true_and, false_and, and_self, and_true, and_false, if_true, if_false, reduceIte, reduceCtorEq, Nat.reduceEqDiff, Int.reduceEq, Int.reduceLT, Int.reduceLE]
    · simp only [d9, d8, d7, d6, d5, d4, d3, d2, d1, zup_at, zcp_df, true_and, false_and, and_self, and_true, and_false, if_true, if_false, reduceIte, reduceCtorEq, Nat.reduceEqDiff, Int.reduceEq, Int.reduceLT, Int.reduceLE]
    · intro k k0 k1
      simp only [d9, d8, d7, d6, d5, d4, d3, d2, d1, zup_at, zcp_df, true_and, false_and, and_self, and_true, and_false, if_true, if_false, reduceIte, reduceCtorEq, Nat.reduceEqDiff, Int.reduceEq, Int.reduceLT, Int.reduceLE, k0, k1]
    · simp only [d9, d8, d7, d6, d5, d4, d3, d2, d1, zup_at, zcp_df, true_and, false_and, and_self, and_true, and_false, if_true, if_false, reduceIte, reduceCtorEq, Nat.reduceEqDiff, Int.reduceEq, Int.reduceLT, Int.reduceLE]
    · simp only [d9, d8, d7, d6, d5, d4, d3, d2, d1, zup_at, zcp_df, true_and, false_and, and_self, and_true, and_false, if_true, if_false, reduceIte, reduceCtorEq, Nat.reduceEqDiff, Int.reduceEq, Int.reduceLT, Int.reduceLE]
    · simp only [d9, d8, d7, d6, d5, d4, d3, d2, d1, zup_at, zcp_df, true_and, false_and, and_self, and_true, and_false, if_true, if_false, reduceIte, reduceCtorEq, Nat.reduceEqDiff, Int.reduceEq, Int.reduceLT, Int.reduceLE]
    · intro k k0 k1
      simp only [d9, d8, d7, d6, d5, d4, d3, d2, d1, zup_at, zcp_df, true_and, false_and, and_self, and_true, and_false, if_true, if_false, reduceIte, reduceCtorEq, Nat.reduceEqDiff, Int.reduceEq, Int.reduceLT, Int.reduceLE, k0, k1]
    · simp only [d9, d8, d7, d6, d5, d4, d3, d2, d1, zup_at, zcp_df, true_and, false_and, and_self, and_true, and_false, if_true, if_false, reduceIte, reduceCtorEq, Nat.reduceEqDiff, Int.reduceEq, Int.reduceLT, Int.reduceLE]
    · simp only [d9, d8, d7, d6, d5, d4, d3, d2, d1, zup_at, zcp_df, true_and, false_and, and_self, and_true, and_false, if_true, if_false, reduceIte, reduceCtorEq, Nat.reduceEqDiff, Int.reduceEq, Int.reduceLT, Int.reduceLE]
    · simp only [d9, d8, d7, d6, d5, d4, d3, d2, d1, zup_at, zcp_df, true_and, false_and, and_self, and_true, and_false, if_true, if_false, reduceIte, reduceCtorEq, Nat.reduceEqDiff, Int.reduceEq, Int.reduceLT, Int.reduceLE]
    · intro k k0 k1
      simp only [d9, d8, d7, d6, d5, d4, d3, d2, d1, zup_at, zcp_df, true_and, false_and, and_self, and_true, and_false, if_true, if_false, reduceIte, reduceCtorEq, Nat.reduceEqDiff, Int.reduceEq, Int.reduceLT, Int.reduceLE, k0, k1]
    · simp only [d9, d8, d7, d6, d5, d4, d3, d2, d1, zup_at, zcp_df, true_and, false_and, and_self, and_true, and_false, if_true, if_false, reduceIte, reduceCtorEq, Nat.reduceEqDiff, Int.reduceEq, Int.reduceLT, Int.reduceLE]
    · simp only [d9, d8, d7, d6, d5, d4, d3, d2, d1, zup_at, zcp_df, true_and, false_and, and_self, and_true, and_false, if_true, if_false, reduceIte, reduceCtorEq, Nat.reduceEqDiff, Int.reduceEq, Int.reduceLT, Int.reduceLE]
    · simp only [d9, d8, d7, d6, d5, d4, d3, d2, d1, zup_at, zcp_df, true_and, false_and, and_self, and_true, and_false, if_true, if_false, reduceIte, reduceCtorEq, Nat.reduceEqDiff, Int.reduceEq, Int.reduceLT, Int.reduceLE]
    · intro k k0 k1
      simp only [d9, d8, d7, d6, d5, d4, d3, d2, d1, zup_at, zcp_df, true_and, false_and, and_self, and_true, and_false, if_true, if_false, reduceIte, reduceCtorEq, Nat.reduceEqDiff, Int.reduceEq, Int.reduceLT, Int.reduceLE, k0, k1]
    · simp only [d9, d8, d7, d6, d5, d4, d3, d2, d1, zup_at, zcp_df, true_and, false_and, and_self, and_true, and_false, if_true, if_false, reduceIte, reduceCtorEq, Nat.reduceEqDiff, Int.reduceEq, Int.reduceLT, Int.reduceLE]
    · simp only [d9, d8, d7, d6, d5, d4, d3, d2, d1, zup_at, zcp_df, true_and, false_and, and_self, and_true, and_false, if_true, if_false, reduceIte, reduceCtorEq, Nat.reduceEqDiff, Int.reduceEq, Int.reduceLT, Int.reduceLE]
    · simp only [d9, d8, d7, d6, d5, d4, d3, d2, d1, zup_at, zcp_df, true_and, false_and, and_self, and_true, and_false, if_true, if_false, reduceIte, reduceCtorEq, Nat.reduceEqDiff, Int.reduceEq, Int.reduceLT, Int.reduceLE]
    · intro k k0 k1
      simp only [d9, d8, d7, d6, d5, d4, d3, d2, d1, zup_at, zcp_df, true_and, false_and, and_self, and_true, and_false, if_true, if_false, reduceIte, reduceCtorEq, Nat.reduceEqDiff, Int.reduceEq, Int.reduceLT, Int.reduceLE, k0, k1]
    · simp only [d9, d8, d7, d6, d5, d4, d3, d2, d1, zup_at, zcp_df, true_and, false_and, and_self, and_true, and_false, if_true, if_false, reduceIte, reduceCtorEq, Nat.reduceEqDiff, Int.reduceEq, Int.reduceLT, Int.reduceLE]
    · intro k k0 k1
      simp only [d9, d8, d7, d6, d5, d4, d3, d2, d1, zup_at, zcp_df, true_and, false_and, and_self, and_true, and_false, if_true, if_false, reduceIte, reduceCtorEq, Nat.reduceEqDiff, Int.reduceEq, Int.reduceLT, Int.reduceLE, k0, k1]
    · intro k k0 k1
      simp only [d9, d8, d7, d6, d5, d4, d3, d2, d1, zup_at, zcp_df, true_and, false_and, and_self, and_true, and_false, if_true, if_false, reduceIte, reduceCtorEq, Nat.reduceEqDiff, Int.reduceEq, Int.reduceLT, Int.reduceLE, k0, k1]
    · intro k k0 k1
      simp only [d9, d8, d7, d6, d5, d4, d3, d2, d1, zup_at, zcp_df, true_and, false_and, and_self, and_true, and_false, if_true, if_false, reduceIte, reduceCtorEq, Nat.reduceEqDiff, Int.reduceEq, Int.reduceLT, Int.reduceLE, k0, k1]
theorem PWorld_cp_23_1 {z Z : zH} {v : Int → Int} (h : PWorld 1 z v) (c : WCop_23_1 z Z) (a6 : z 29 0 = 8) (b6 : z 29 1 = 5) (a8 : z 31 0 = 4) (b8 : z 31 1 = 21) (a10 : z 33 0 = 5) (b10 : z 33 1 = 4) (a16 : z 39 0 = 7) (b16 : z 39 1 = 3) (a18 : z 41 0 = 8) (b18 : z 41 1 = 1) (a20 : z 43 0 = 20) (b20 : z 43 1 = 3) : PWorld 23 Z v := by
  obtain ⟨c0, c1, c2, c3, c4, c5, c6, c7, c8, c9, c10, c11, c12, c13, c14, c15, c16, c17, c18, c19, c20, c21, c22, c23, c24, c25, c26, c27, c28, c29, c30, c31, c32, c33⟩ := c
  obtain ⟨hL, hC, hE, hP, hS, hH, hT, hJ, hY⟩ := h
  have g5 : ∀ k, 0 ≤ k → k < 5 → Z (23 + 5) k = z (1 + 5) k := c5
  refine ⟨⟨⟨?_, ?_, ?_, ?_, ?_⟩, hL.2⟩, ⟨?_, ?_, ?_, ?_, ?_, hC.2.2.2.2.2⟩, ⟨⟨c6.trans a6, c7.trans b6, c8.trans hE.1.2.2.1, hE.1.2.2.2.1, ?_⟩, hE.2⟩, ⟨⟨c10.trans a8, c11.trans b8, c12.trans hP.1.2.2.1, hP.1.2.2.2⟩, ?_, hP.2.2⟩, ⟨⟨c14.trans a10, c15.trans b10, c16.trans hS.1.2.2.1, hS.1.2.2.2.1, ?_⟩, hS.2⟩, ⟨c30.trans hH.1, hH.2.1, ?_⟩, ⟨⟨c18.trans a16, c19.trans b16, c20.trans hT.1.2.2.1, hT.1.2.2.2.1, ?_⟩, hT.2⟩, ⟨⟨c22.trans a18, c23.trans b18, c24.trans hJ.1.2.2.1, hJ.1.2.2.2.1, ?_⟩, hJ.2⟩, ⟨⟨c26.trans a20, c27.trans b20, c28.trans hY.1.2.2.1, hY.1.2.2.2.1, ?_⟩, hY.2⟩⟩
  · exact c0.trans hL.1.1
  · exact c1.trans hL.1.2.1
  · intro k k0 k1; exact (c2 k k0 k1).trans (hL.1.2.2.1 k k0 k1)
  · intro k k0 k1; exact (c3 k k0 k1).trans (hL.1.2.2.2.1 k k0 k1)
  · intro k k0 k1; exact (c4 k k0 k1).trans (hL.1.2.2.2.2 k k0 k1)
  · exact (g5 0 (by omega) (by omega)).trans hC.1
  · exact (g5 1 (by omega) (by omega)).trans hC.2.1
  · exact (g5 2 (by omega) (by omega)).trans hC.2.2.1
  · exact (g5 3 (by omega) (by omega)).trans hC.2.2.2.1
  · exact (g5 4 (by omega) (by omega)).trans hC.2.2.2.2.1
  · intro k k0 k1; exact (c9 k k0 (by omega)).trans (hE.1.2.2.2.2 k k0 k1)
  · intro p p0 p1
    have w := hP.2.1 p p0 p1
    exact ⟨(c13 _ (by omega) (by omega)).trans w.1, fun i i0 i1 => (c13 _ (by omega) (by omega)).trans (w.2 i i0 i1)⟩
  · intro k k0 k1; exact (c17 k k0 (by omega)).trans (hS.1.2.2.2.2 k k0 k1)
  · intro i i0 i1
    have h9 := hH.2.1
    obtain ⟨w1, w2, B, w3⟩ := hH.2.2 i i0 i1
    have g1 : Z (23 + 12 + 2) i = z (1 + 12 + 2) i := c32 i i0 (by omega)
    have g2 : Z (23 + 12 + 2) (i + 1) = z (1 + 12 + 2) (i + 1) := c32 (i + 1) (by omega) (by omega)
    have w4 := w3.1
    rw [g1, g2]
    exact ⟨(c31 i i0 (by omega)).trans w1, w2, B, Den_t w3 (fun j j0 j1 => c33 j (by omega) (by omega)) (fun j j0 j1 => rfl)⟩
  · intro k k0 k1; exact (c21 k k0 (by omega)).trans (hT.1.2.2.2.2 k k0 k1)
  · intro k k0 k1; exact (c25 k k0 (by omega)).trans (hJ.1.2.2.2.2 k k0 k1)
  · intro k k0 k1; exact (c29 k k0 (by omega)).trans (hY.1.2.2.2.2 k k0 k1)
theorem c_lcp_1_23 (d : Nat) (z : zH) : cM (d + 1) 45 [xR 21 2, xR 21 24] (hI z) = some (zI 0, hI (zcp (zcp (zcp (zup (zup z 2 0 (z 24 0)) 2 1 (z 24 1)) 25 3 64) 26 4 64) 27 5 9)) := by
  rw [e_X5_become]
  simp (maxSteps := 3000000) (disch := (first | exact hz _ _ | exact hv _ | exact hL | assumption | (simp (disch := decide) only [zup_ne]; exact hL) | (simp only [zR]; omega) | omega)) only [zLit, zI_div, hI_fs, hI_us, zI_add, zI_sub, zI_mul, zI_neg, zI_lt, zI_eq, zI_ite, xbd_s, zI_nat, zld, zst, zbd, zB_0, zB_1, lenX_s, zup_at, xgd, cond_true, cond_false, and_self, and_true, true_and, false_and, and_false, or_self, or_false, false_or, if_true, if_false, ite_true, ite_false, reduceIte, reduceCtorEq, Nat.reduceEqDiff, Nat.reduceAdd, Nat.reduceMul, Int.reduceNeg, Int.reduceAdd, Int.reduceSub, Int.reduceMul, Int.reduceLT, Int.reduceLE, Int.reduceEq, Int.reduceDiv, Int.reduceMod, Int.reduceToNat, Int.toNat_zero, Int.toNat_one, Nat.reduceLeDiff, Nat.reduceLT, ite_not, not_true, not_false_eq_true, zcp_l]
theorem c_ccp_1_23 (d : Nat) (z : zH) : cM (d + 1) 15 [xR 18 6, xR 18 28] (hI z) = some (zI 0, hI (zup (zup (zup (zup (zup (z) 6 0 (z 28 0)) 6 1 (z 28 1)) 6 2 (z 28 2)) 6 3 (z 28 3)) 6 4 (z 28 4))) := by
  rw [e_X2_become_]
  simp (maxSteps := 3000000) (disch := (first | exact hz _ _ | exact hv _ | exact hL | assumption | (simp (disch := decide) only [zup_ne]; exact hL) | (simp only [zR]; omega) | omega)) only [zLit, zI_div, hI_fs, hI_us, zI_add, zI_sub, zI_mul, zI_neg, zI_lt, zI_eq, zI_ite, xbd_s, zI_nat, zld, zst, zbd, zB_0, zB_1, lenX_s, zup_at, xgd, cond_true, cond_false, and_self, and_true, true_and, false_and, and_false, or_self, or_false, false_or, if_true, if_false, ite_true, ite_false, reduceIte, reduceCtorEq, Nat.reduceEqDiff, Nat.reduceAdd, Nat.reduceMul, Int.reduceNeg, Int.reduceAdd, Int.reduceSub, Int.reduceMul, Int.reduceLT, Int.reduceLE, Int.reduceEq, Int.reduceDiv, Int.reduceMod, Int.reduceToNat, Int.toNat_zero, Int.toNat_one, Nat.reduceLeDiff, Nat.reduceLT, ite_not, not_true, not_false_eq_true]
theorem c_hcp_1_23 (d : Nat) (z : zH) : cM (d + 1) 30 [xR 20 13, xR 20 35] (hI z) = some (zI 0, hI (zup (zcp (zcp (zcp z 36 14 9) 37 15 10) 38 16 240) 13 3 (z 35 3))) := by
  rw [e_X4_become]
  simp (maxSteps := 3000000) (disch := (first | exact hz _ _ | exact hv _ | exact hL | assumption | (simp (disch := decide) only [zup_ne]; exact hL) | (simp only [zR]; omega) | omega)) only [zLit, hI_fs, hI_us, zI_nat, zI_lt, lenX_s, Int.toNat_zero, Int.reduceToNat, Nat.reduceAdd, Int.reduceLT, or_self, if_false, zcp_l, Nat.reduceLT, Nat.lt_irrefl]
  simp only [zcp_ne _ _ (show (35 : Nat) ≠ 16 by decide), zcp_ne _ _ (show (35 : Nat) ≠ 15 by decide), zcp_ne _ _ (show (35 : Nat) ≠ 14 by decide)]
def WCop_1_23 (z Z : zH) : Prop := Z 2 0 = z 24 0 ∧ Z 2 1 = z 24 1 ∧ (∀ k, 0 ≤ k → k < 64 → Z 3 k = z 25 k) ∧ (∀ k, 0 ≤ k → k < 64 → Z 4 k = z 26 k) ∧ (∀ k, 0 ≤ k → k < 9 → Z 5 k = z 27 k) ∧ (∀ k, 0 ≤ k → k < 5 → Z 6 k = z 28 k) ∧ Z 7 0 = z 7 0 ∧ Z 7 1 = z 7 1 ∧ Z 7 3 = z 29 3 ∧ (∀ k, 0 ≤ k → k < 40 → Z 8 k = z 30 k) ∧ Z 9 0 = z 9 0 ∧ Z 9 1 = z 9 1 ∧ Z 9 3 = z 31 3 ∧ (∀ k, 0 ≤ k → k < 84 → Z 10 k = z 32 k) ∧ Z 11 0 = z 11 0 ∧ Z 11 1 = z 11 1 ∧ Z 11 3 = z 33 3 ∧ (∀ k, 0 ≤ k → k < 20 → Z 12 k = z 34 k) ∧ Z 17 0 = z 17 0 ∧ Z 17 1 = z 17 1 ∧ Z 17 3 = z 39 3 ∧ (∀ k, 0 ≤ k → k < 21 → Z 18 k = z 40 k) ∧ Z 19 0 = z 19 0 ∧ Z 19 1 = z 19 1 ∧ Z 19 3 = z 41 3 ∧ (∀ k, 0 ≤ k → k < 8 → Z 20 k = z 42 k) ∧ Z 21 0 = z 21 0 ∧ Z 21 1 = z 21 1 ∧ Z 21 3 = z 43 3 ∧ (∀ k, 0 ≤ k → k < 60 → Z 22 k = z 44 k) ∧ Z 13 3 = z 35 3 ∧ (∀ k, 0 ≤ k → k < 9 → Z 14 k = z 36 k) ∧ (∀ k, 0 ≤ k → k < 10 → Z 15 k = z 37 k) ∧ (∀ k, 0 ≤ k → k < 240 → Z 16 k = z 38 k)
theorem c_wcp_1_23 {z : zH} (hz : zRR z) : ∃ Z, (∀ d, cM (d + 2) 88 [xR 26 1, xR 26 23] (hI z) = some (zI 0, hI Z)) ∧ zRR Z ∧ fr [2, 3, 4, 5, 6, 7, 8, 9, 10, 11, 12, 13, 14, 15, 16, 17, 18, 19, 20, 21, 22] z Z ∧ WCop_1_23 z Z := by
  obtain ⟨Z1, d1⟩ : ∃ Z, Z = zcp (zcp (zcp (zup (zup z 2 0 (z 24 0)) 2 1 (z 24 1)) 25 3 64) 26 4 64) 27 5 9 := ⟨_, rfl⟩
  have e1 := fun d => c_lcp_1_23 d z
  rw [← d1] at e1
  have y1 : zRR Z1 := by rw [d1]; exact zRR_cp (zRR_cp (zRR_cp (zRR_up (zRR_up hz _ _ (hz _ _)) _ _ (hz _ _)) _ _ _) _ _ _) _ _ _
  have f1 : fr [2, 3, 4, 5, 6, 7, 8, 9, 10, 11, 12, 13, 14, 15, 16, 17, 18, 19, 20, 21, 22] z Z1 := by rw [d1]; exact fr_cp (fr_cp (fr_cp (fr_up (fr_up (fr_rf _ _) _ _ rfl) _ _ rfl) _ _ rfl) _ _ rfl) _ _ rfl
  obtain ⟨Z2, d2⟩ : ∃ Z, Z = zup (zup (zup (zup (zup (Z1) 6 0 (Z1 28 0)) 6 1 (Z1 28 1)) 6 2 (Z1 28 2)) 6 3 (Z1 28 3)) 6 4 (Z1 28 4) := ⟨_, rfl⟩
  have e2 := fun d => c_ccp_1_23 d Z1
  rw [← d2] at e2
  have y2 : zRR Z2 := by rw [d2]; exact zRR_up (zRR_up (zRR_up (zRR_up (zRR_up y1 _ _ (y1 _ _)) _ _ (y1 _ _)) _ _ (y1 _ _)) _ _ (y1 _ _)) _ _ (y1 _ _)
  have f2 : fr [2, 3, 4, 5, 6, 7, 8, 9, 10, 11, 12, 13, 14, 15, 16, 17, 18, 19, 20, 21, 22] Z1 Z2 := by rw [d2]; exact fr_up (fr_up (fr_up (fr_up (fr_up (fr_rf _ _) _ _ rfl) _ _ rfl) _ _ rfl) _ _ rfl) _ _ rfl
  obtain ⟨Z3, d3⟩ : ∃ Z, Z = zup (zcp Z2 30 8 40) 7 3 (Z2 29 3) := ⟨_, rfl⟩
  have e3 : ∀ d, cM (d + 1) 61 [xR 23 7, xR 23 29] (hI Z2) = some (zI 0, hI (zup (zcp Z2 30 8 40) 7 3 (Z2 29 3))) := fun d => c_rCopy d (z := Z2) (o1 := 7) (o2 := 29) (n := 40) rfl rfl (by omega) (by omega)
  rw [← d3] at e3
  have y3 : zRR Z3 := by rw [d3]; exact zRR_up (zRR_cp y2 _ _ _) _ _ (y2 _ _)
  have f3 : fr [2, 3, 4, 5, 6, 7, 8, 9, 10, 11, 12, 13, 14, 15, 16, 17, 18, 19, 20, 21, 22] Z2 Z3 := by rw [d3]; exact fr_up (fr_cp (fr_rf _ _) _ _ rfl) _ _ rfl
  obtain ⟨Z4, d4⟩ : ∃ Z, Z = zup (zcp Z3 32 10 84) 9 3 (Z3 31 3) := ⟨_, rfl⟩
  have e4 : ∀ d, cM (d + 1) 61 [xR 23 9, xR 23 31] (hI Z3) = some (zI 0, hI (zup (zcp Z3 32 10 84) 9 3 (Z3 31 3))) := fun d => c_rCopy d (z := Z3) (o1 := 9) (o2 := 31) (n := 84) rfl rfl (by omega) (by omega)
  rw [← d4] at e4
  have y4 : zRR Z4 := by rw [d4]; exact zRR_up (zRR_cp y3 _ _ _) _ _ (y3 _ _)
  have f4 : fr [2, 3, 4, 5, 6, 7, 8, 9, 10, 11, 12, 13, 14, 15, 16, 17, 18, 19, 20, 21, 22] Z3 Z4 := by rw [d4]; exact fr_up (fr_cp (fr_rf _ _) _ _ rfl) _ _ rfl
  obtain ⟨Z5, d5⟩ : ∃ Z, Z = zup (zcp Z4 34 12 20) 11 3 (Z4 33 3) := ⟨_, rfl⟩
  have e5 : ∀ d, cM (d + 1) 61 [xR 23 11, xR 23 33] (hI Z4) = some (zI 0, hI (zup (zcp Z4 34 12 20) 11 3 (Z4 33 3))) := fun d => c_rCopy d (z := Z4) (o1 := 11) (o2 := 33) (n := 20) rfl rfl (by omega) (by omega)
  rw [← d5] at e5
  have y5 : zRR Z5 := by rw [d5]; exact zRR_up (zRR_cp y4 _ _ _) _ _ (y4 _ _)
  have f5 : fr [2, 3, 4, 5, 6, 7, 8, 9, 10, 11, 12, 13, 14, 15, 16, 17, 18, 19, 20, 21, 22] Z4 Z5 := by rw [d5]; exact fr_up (fr_cp (fr_rf _ _) _ _ rfl) _ _ rfl
  obtain ⟨Z6, d6⟩ : ∃ Z, Z = zup (zcp (zcp (zcp Z5 36 14 9) 37 15 10) 38 16 240) 13 3 (Z5 35 3) := ⟨_, rfl⟩
  have e6 := fun d => c_hcp_1_23 d Z5
  rw [← d6] at e6
  have y6 : zRR Z6 := by rw [d6]; exact zRR_up (zRR_cp (zRR_cp (zRR_cp y5 _ _ _) _ _ _) _ _ _) _ _ (y5 _ _)
  have f6 : fr [2, 3, 4, 5, 6, 7, 8, 9, 10, 11, 12, 13, 14, 15, 16, 17, 18, 19, 20, 21, 22] Z5 Z6 := by rw [d6]; exact fr_up (fr_cp (fr_cp (fr_cp (fr_rf _ _) _ _ rfl) _ _ rfl) _ _ rfl) _ _ rfl
  obtain ⟨Z7, d7⟩ : ∃ Z, Z = zup (zcp Z6 40 18 21) 17 3 (Z6 39 3) := ⟨_, rfl⟩
  have e7 : ∀ d, cM (d + 1) 61 [xR 23 17, xR 23 39] (hI Z6) = some (zI 0, hI (zup (zcp Z6 40 18 21) 17 3 (Z6 39 3))) := fun d => c_rCopy d (z := Z6) (o1 := 17) (o2 := 39) (n := 21) rfl rfl (by omega) (by omega)
  rw [← d7] at e7
  have y7 : zRR Z7 := by rw [d7]; exact zRR_up (zRR_cp y6 _ _ _) _ _ (y6 _ _)
  have f7 : fr [2, 3, 4, 5, 6, 7, 8, 9, 10, 11, 12, 13, 14, 15, 16, 17, 18, 19, 20, 21, 22] Z6 Z7 := by rw [d7]; exact fr_up (fr_cp (fr_rf _ _) _ _ rfl) _ _ rfl
  obtain ⟨Z8, d8⟩ : ∃ Z, Z = zup (zcp Z7 42 20 8) 19 3 (Z7 41 3) := ⟨_, rfl⟩
  have e8 : ∀ d, cM (d + 1) 61 [xR 23 19, xR 23 41] (hI Z7) = some (zI 0, hI (zup (zcp Z7 42 20 8) 19 3 (Z7 41 3))) := fun d => c_rCopy d (z := Z7) (o1 := 19) (o2 := 41) (n := 8) rfl rfl (by omega) (by omega)
  rw [← d8] at e8
  have y8 : zRR Z8 := by rw [d8]; exact zRR_up (zRR_cp y7 _ _ _) _ _ (y7 _ _)
  have f8 : fr [2, 3, 4, 5, 6, 7, 8, 9, 10, 11, 12, 13, 14, 15, 16, 17, 18, 19, 20, 21, 22] Z7 Z8 := by rw [d8]; exact fr_up (fr_cp (fr_rf _ _) _ _ rfl) _ _ rfl
  obtain ⟨Z9, d9⟩ : ∃ Z, Z = zup (zcp Z8 44 22 60) 21 3 (Z8 43 3) := ⟨_, rfl⟩
  have e9 : ∀ d, cM (d + 1) 61 [xR 23 21, xR 23 43] (hI Z8) = some (zI 0, hI (zup (zcp Z8 44 22 60) 21 3 (Z8 43 3))) := fun d => c_rCopy d (z := Z8) (o1 := 21) (o2 := 43) (n := 60) rfl rfl (by omega) (by omega)
  rw [← d9] at e9
  have y9 : zRR Z9 := by rw [d9]; exact zRR_up (zRR_cp y8 _ _ _) _ _ (y8 _ _)
  have f9 : fr [2, 3, 4, 5, 6, 7, 8, 9, 10, 11, 12, 13, 14, 15, 16, 17, 18, 19, 20, 21, 22] Z8 Z9 := by rw [d9]; exact fr_up (fr_cp (fr_rf _ _) _ _ rfl) _ _ rfl
  refine ⟨Z9, fun d => ?_, y9, ?_, ?_⟩
  · rw [e_X10_become]
    simp only [Nat.reduceAdd]
    rw [e1, xbd_s, e2, xbd_s, e3, xbd_s, e4, xbd_s, e5, xbd_s, e6, xbd_s, e7, xbd_s, e8, xbd_s, e9]
    rfl
  · exact fr_tr (fr_tr (fr_tr (fr_tr (fr_tr (fr_tr (fr_tr (fr_tr (f1) f2 rfl) f3 rfl) f4 rfl) f5 rfl) f6 rfl) f7 rfl) f8 rfl) f9 rfl
  · unfold WCop_1_23
    clear e1 y1 f1 e2 y2 f2 e3 y3 f3 e4 y4 f4 e5 y5 f5 e6 y6 f6 e7 y7 f7 e8 y8 f8 e9 y9 f9
    refine ⟨?_, ?_, ?_, ?_, ?_, ?_, ?_, ?_, ?_, ?_, ?_, ?_, ?_, ?_, ?_, ?_, ?_, ?_, ?_, ?_, ?_, ?_, ?_, ?_, ?_, ?_, ?_, ?_, ?_, ?_, ?_, ?_, ?_, ?_⟩
    · simp only [d9, d8, d7, d6, d5, d4, d3, d2, d1, zup_at, zcp_df, true_and, false_and, and_self, and_true, and_false, if_true, if_false, reduceIte, reduceCtorEq, Nat.reduceEqDiff, Int.reduceEq, Int.reduceLT, Int.reduceLE]
    · simp only [d9, d8, d7, d6, d5, d4, d3, d2, d1, zup_at, zcp_df, true_and, false_and, and_self, and_true, and_false, if_true, if_false, reduceIte, reduceCtorEq, Nat.reduceEqDiff, Int.reduceEq, Int.reduceLT, Int.reduceLE]
    · intro k k0 k1
      simp only [d9, d8, d7, d6, d5, d4, d3, d2, d1, zup_at, zcp_df, true_and, false_and, and_self, and_true, and_false, if_true, if_false, reduceIte, reduceCtorEq, Nat.reduceEqDiff, Int.reduceEq, Int.reduceLT, Int.reduceLE, k0, k1]
    · intro k k0 k1
      simp only [d9, d8, d7, d6, d5, d4, d3, d2, d1, zup_at, zcp_df, true_and, false_and, and_self, and_true, and_false, if_true, if_false, reduceIte, reduceCtorEq, Nat.reduceEqDiff, Int.reduceEq, Int.reduceLT, Int.reduceLE, k0, k1]
    · intro k k0 k1
      simp only [d9, d8, d7, d6, d5, d4, d3, d2, d1, zup_at, zcp_df, true_and, false_and, and_self, and_true, and_false, if_true, if_false, reduceIte, reduceCtorEq, Nat.reduceEqDiff, Int.reduceEq, Int.reduceLT, Int.reduceLE, k0, k1]
    · intro k k0 k1
      rcases (show k = 0 ∨ k = 1 ∨ k = 2 ∨ k = 3 ∨ k = 4 by omega) with q | q | q | q | q <;> subst q <;> simp only [d9, d8, d7, d6, d5, d4, d3, d2, d1, zup_at, zcp_df, true_and, false_and, and_self, and_true, and_false, if_true, if_false, reduceIte, reduceCtorEq, Nat.reduceEqDiff, Int.reduceEq, Int.reduceLT, Int.reduceLE]
    · simp only [d9, d8, d7, d6, d5, d4, d3, d2, d1, zup_at, zcp_df, true_and, false_and, and_self, and_true, and_false, if_true, if_false, reduceIte, reduceCtorEq, Nat.reduceEqDiff, Int.reduceEq, Int.reduceLT, Int.reduceLE]
    · simp only [d9, d8, d7, d6, d5, d4, d3, d2, d1, zup_at, zcp_df, true_and, false_and, and_self, and_true, and_false, if_true, if_false, reduceIte, reduceCtorEq, Nat.reduceEqDiff, Int.reduceEq, Int.reduceLT, Int.reduceLE]
    · simp only [d9, d8, d7, d6, d5, d4, d3, d2, d1, zup_at, zcp_df, true_and, false_and, and_self, and_true, and_false, if_true, if_false, reduceIte, reduceCtorEq, Nat.reduceEqDiff, Int.reduceEq, Int.reduceLT, Int.reduceLE]
    · intro k k0 k1
      simp only [d9, d8, d7, d6, d5, d4, d3, d2, d1, zup_at, zcp_df, true_and, false_and, and_self, and_true, and_false, if_true, if_false, reduceIte, reduceCtorEq, Nat.reduceEqDiff, Int.reduceEq, Int.reduceLT, Int.reduceLE, k0, k1]
    · simp only [d9, d8, d7, d6, d5, d4, d3, d2, d1, zup_at, zcp_df, true_and, false_and, and_self, and_true, and_false, if_true, if_false, reduceIte, reduceCtorEq, Nat.reduceEqDiff, Int.reduceEq, Int.reduceLT, Int.reduceLE]
    · simp only [d9, d8, d7, d6, d5, d4, d3, d2, d1, zup_at, zcp_df, true_and, false_and, and_self, and_true, and_false, if_true, if_false, reduceIte, reduceCtorEq, Nat.reduceEqDiff, Int.reduceEq, Int.reduceLT, Int.reduceLE]
    · simp only [d9, d8, d7, d6, d5, d4, d3, d2, d1, zup_at, zcp_df, true_and, false_and, and_self, and_true, and_false, if_true, if_false, reduceIte, reduceCtorEq, Nat.reduceEqDiff, Int.reduceEq, Int.reduceLT, Int.reduceLE]
    · intro k k0 k1
      simp only [d9, d8, d7, d6, d5, d4, d3, d2, d1, zup_at, zcp_df, true_and, false_and, and_self, and_true, and_false, if_true, if_false, reduceIte, reduceCtorEq, Nat.reduceEqDiff, Int.reduceEq, Int.reduceLT, Int.reduceLE, k0, k1]
    · simp only [d9, d8, d7, d6, d5, d4, d3, d2, d1, zup_at, zcp_df, true_and, false_and, and_self, and_true, and_false, if_true, if_false, reduceIte, reduceCtorEq, Nat.reduceEqDiff, Int.reduceEq, Int.reduceLT, Int.reduceLE]
    · simp only [d9, d8, d7, d6, d5, d4, d3, d2, d1, zup_at, zcp_df, true_and, false_and, and_self, and_true, and_false, if_true, if_false, reduceIte, reduceCtorEq, Nat.reduceEqDiff, Int.reduceEq, Int.reduceLT, Int.reduceLE]
    · simp only [d9, d8, d7, d6, d5, d4, d3, d2, d1, zup_at, zcp_df, true_and, false_and, and_self, and_true, and_false, if_true, if_false, reduceIte, reduceCtorEq, Nat.reduceEqDiff, Int.reduceEq, Int.reduceLT, Int.reduceLE]
    · intro k k0 k1
      simp only [d9, d8, d7, d6, d5, d4, d3, d2, d1, zup_at, zcp_df, true_and, false_and, and_self, and_true, and_false, if_true, if_false, reduceIte, reduceCtorEq, Nat.reduceEqDiff, Int.reduceEq, Int.reduceLT, Int.reduceLE, k0, k1]
    · simp only [d9, d8, d7, d6, d5, d4, d3, d2, d1, zup_at, zcp_df, true_and, false_and, and_self, and_true, and_false, if_true, if_false, reduceIte, reduceCtorEq, Nat.reduceEqDiff, Int.reduceEq, Int.reduceLT, Int.reduceLE]
    · simp only [d9, d8, d7, d6, d5, d4, d3, d2, d1, zup_at, zcp_df, true_and, false_and, and_self, and_true, and_false, if_true, if_false, reduceIte, reduceCtorEq, Nat.reduceEqDiff, Int.reduceEq, Int.reduceLT, Int.reduceLE]
    · simp only [d9, d8, d7, d6, d5, d4, d3, d2, d1, zup_at, zcp_df, true_and, false_and, and_self, and_true, and_false, if_true, if_false, reduceIte, reduceCtorEq, Nat.reduceEqDiff, Int.reduceEq, Int.reduceLT, Int.reduceLE]
    · intro k k0 k1
      simp only [d9, d8, d7, d6, d5, d4, d3, d2, d1, zup_at, zcp_df, true_and, false_and, and_self, and_true, and_false, if_true, if_false, reduceIte, reduceCtorEq, Nat.reduceEqDiff, Int.reduceEq, Int.reduceLT, Int.reduceLE, k0, k1]
    · simp only [d9, d8, d7, d6, d5, d4, d3, d2, d1, zup_at, zcp_df, true_and, false_and, and_self, and_true, and_false, if_true, if_false, reduceIte, reduceCtorEq, Nat.reduceEqDiff, Int.reduceEq, Int.reduceLT, Int.reduceLE]
    · simp only [d9, d8, d7, d6, d5, d4, d3, d2, d1, zup_at, zcp_df, true_and, false_and, and_self, and_true, and_false, if_true, if_false, reduceIte, reduceCtorEq, Nat.reduceEqDiff, Int.reduceEq, Int.reduceLT, Int.reduceLE]
    · simp only [d9, d8, d7, d6, d5, d4, d3, d2, d1, zup_at, zcp_df, true_and, false_and, and_self, and_true, and_false, if_true, if_false, reduceIte, reduceCtorEq, Nat.reduceEqDiff, Int.reduceEq, Int.reduceLT, Int.reduceLE]
    · intro k k0 k1
      simp only [d9, d8, d7, d6, d5, d4, d3, d2, d1, zup_at, zcp_df, true_and, false_and, and_self, and_true, and_false, if_true, if_false, reduceIte, reduceCtorEq, Nat.reduceEqDiff, Int.reduceEq, Int.reduceLT, Int.reduceLE, k0, k1]
    · simp only [d9, d8, d7, d6, d5, d4, d3, d2, d1, zup_at, zcp_df, true_and, false_and, and_self, and_true, and_false, if_true, if_false, reduceIte, reduceCtorEq, Nat.reduceEqDiff, Int.reduceEq, Int.reduceLT, Int.reduceLE]
    · simp only [d9, d8, d7, d6, d5, d4, d3, d2, d1, zup_at, zcp_df, true_and, false_and, and_self, and_true, and_false, if_true, if_false, reduceIte, reduceCtorEq, Nat.reduceEqDiff, Int.reduceEq, Int.reduceLT, Int.reduceLE]
    · simp only [d9, d8, d7, d6, d5, d4, d3, d2, d1, zup_at, zcp_df, true_and, false_and, and_self, and_true, and_false, if_true, if_false, reduceIte, reduceCtorEq, Nat.reduceEqDiff, Int.reduceEq, Int.reduceLT, Int.reduceLE]
    · intro k k0 k1
      simp only [d9, d8, d7, d6, d5, d4, d3, d2, d1, zup_at, zcp_df, true_and, false_and, and_self, and_true, and_false, if_true, if_false, reduceIte, reduceCtorEq, Nat.reduceEqDiff, Int.reduceEq, Int.reduceLT, Int.reduceLE, k0, k1]
    · simp only [d9, d8, d7, d6, d5, d4, d3, d2, d1, zup_at, zcp_df, true_and, false_and, and_self, and_true, and_false, if_true, if_false, reduceIte, reduceCtorEq, Nat.reduceEqDiff, Int.reduceEq, Int.reduceLT, Int.reduceLE]
    · intro k k0 k1
      simp only [d9, d8, d7, d6, d5, d4, d3, d2, d1, zup_at, zcp_df, true_and, false_and, and_self, and_true, and_false, if_true, if_false, reduceIte, reduceCtorEq, Nat.reduceEqDiff, Int.reduceEq, Int.reduceLT, Int.reduceLE, k0, k1]
    · intro k k0 k1
      simp only [d9, d8, d7, d6, d5, d4, d3, d2, d1, zup_at, zcp_df, true_and, false_and, and_self, and_true, and_false, if_true, if_false, reduceIte, reduceCtorEq, Nat.reduceEqDiff, Int.reduceEq, Int.reduceLT, Int.reduceLE, k0, k1]
    · intro k k0 k1
      simp only [d9, d8, d7, d6, d5, d4, d3, d2, d1, zup_at, zcp_df, true_and, false_and, and_self, and_true, and_false, if_true, if_false, reduceIte, reduceCtorEq, Nat.reduceEqDiff, Int.reduceEq, Int.reduceLT, Int.reduceLE, k0, k1]
theorem PWorld_cp_1_23 {z Z : zH} {v : Int → Int} (h : PWorld 23 z v) (c : WCop_1_23 z Z) (a6 : z 7 0 = 8) (b6 : z 7 1 = 5) (a8 : z 9 0 = 4) (b8 : z 9 1 = 21) (a10 : z 11 0 = 5) (b10 : z 11 1 = 4) (a16 : z 17 0 = 7) (b16 : z 17 1 = 3) (a18 : z 19 0 = 8) (b18 : z 19 1 = 1) (a20 : z 21 0 = 20) (b20 : z 21 1 = 3) : PWorld 1 Z v := by
  obtain ⟨c0, c1, c2, c3, c4, c5, c6, c7, c8, c9, c10, c11, c12, c13, c14, c15, c16, c17, c18, c19, c20, c21, c22, c23, c24, c25, c26, c27, c28, c29, c30, c31, c32, c33⟩ := c
  obtain ⟨hL, hC, hE, hP, hS, hH, hT, hJ, hY⟩ := h
  have g5 : ∀ k, 0 ≤ k → k < 5 → Z (1 + 5) k = z (23 + 5) k := c5
  refine ⟨⟨⟨?_, ?_, ?_, ?_, ?_⟩, hL.2⟩, ⟨?_, ?_, ?_, ?_, ?_, hC.2.2.2.2.2⟩, ⟨⟨c6.trans a6, c7.trans b6, c8.trans hE.1.2.2.1, hE.1.2.2.2.1, ?_⟩, hE.2⟩, ⟨⟨c10.trans a8, c11.trans b8, c12.trans hP.1.2.2.1, hP.1.2.2.2⟩, ?_, hP.2.2⟩, ⟨⟨c14.trans a10, c15.trans b10, c16.trans hS.1.2.2.1, hS.1.2.2.2.1, ?_⟩, hS.2⟩, ⟨c30.trans hH.1, hH.2.1, ?_⟩, ⟨⟨c18.trans a16, c19.trans b16, c20.trans hT.1.2.2.1, hT.1.2.2.2.1, ?_⟩, hT.2⟩, ⟨⟨c22.trans a18, c23.trans b18, c24.trans hJ.1.2.2.1, hJ.1.2.2.2.1, ?_⟩, hJ.2⟩, ⟨⟨c26.trans a20, c27.trans b20, c28.trans hY.1.2.2.1, hY.1.2.2.2.1, ?_⟩, hY.2⟩⟩
  · exact c0.trans hL.1.1
  · exact c1.trans hL.1.2.1
  · intro k k0 k1; exact (c2 k k0 k1).trans (hL.1.2.2.1 k k0 k1)
  · intro k k0 k1; exact (c3 k k0 k1).trans (hL.1.2.2.2.1 k k0 k1)
  · intro k k0 k1; exact (c4 k k0 k1).trans (hL.1.2.2.2.2 k k0 k1)
  · exact (g5 0 (by omega) (by omega)).trans hC.1
  · exact (g5 1 (by omega) (by omega)).trans hC.2.1
  · exact (g5 2 (by omega) (by omega)).trans hC.2.2.1
  · exact (g5 3 (by omega) (by omega)).trans hC.2.2.2.1
  · exact (g5 4 (by omega) (by omega)).trans hC.2.2.2.2.1
  · intro k k0 k1; exact (c9 k k0 (by omega)).trans (hE.1.2.2.2.2 k k0 k1)
  · intro p p0 p1
    have w := hP.2.1 p p0 p1
    exact ⟨(c13 _ (by omega) (by omega)).trans w.1, fun i i0 i1 => (c13 _ (by omega) (by omega)).trans (w.2 i i0 i1)⟩
  · intro k k0 k1; exact (c17 k k0 (by omega)).trans (hS.1.2.2.2.2 k k0 k1)
  · intro i i0 i1
    have h9 := hH.2.1
    obtain ⟨w1, w2, B, w3⟩ := hH.2.2 i i0 i1
    have g1 : Z (1 + 12 + 2) i = z (23 + 12 + 2) i := c32 i i0 (by omega)
    have g2 : Z (1 + 12 + 2) (i + 1) = z (23 + 12 + 2) (i + 1) := c32 (i + 1) (by omega) (by omega)
    have w4 := w3.1
    rw [g1, g2]
    exact ⟨(c31 i i0 (by omega)).trans w1, w2, B, Den_t w3 (fun j j0 j1 => c33 j (by omega) (by omega)) (fun j j0 j1 => rfl)⟩
  · intro k k0 k1; exact (c21 k k0 (by omega)).trans (hT.1.2.2.2.2 k k0 k1)
  · intro k k0 k1; exact (c25 k k0 (by omega)).trans (hJ.1.2.2.2.2 k k0 k1)
  · intro k k0 k1; exact (c29 k k0 (by omega)).trans (hY.1.2.2.2.2 k k0 k1)
theorem m_keep_l (d : Nat) {z : zH} : ∀ (m : Nat) (k : Int), 0 ≤ k → k + m = 572 → ∀ n, m < n → r_X12_keep d n 2 [some (xR 28 100), some (xI (zI k))] [] (hI (zcp z 101 102 k)) = some (zI 1, hI (zup (zcp z 101 102 572) 100 2 1)) := by
  intro m
  induction m with
  | zero =>
    intro k h0 h1 n hn
    obtain ⟨n, rfl⟩ := Nat.exists_eq_succ_of_ne_zero (show n ≠ 0 by omega)
    have e : k = 572 := by omega
    subst e
    rw [l_X12_keep_2]
    simp (maxSteps := 3000000) (disch := (first | exact hz _ _ | exact hv _ | exact hL | assumption | (simp (disch := decide) only [zup_ne]; exact hL) | (simp only [zR]; omega) | omega)) only [zLit, zI_div, hI_fs, hI_us, zI_add, zI_sub, zI_mul, zI_neg, zI_lt, zI_eq, zI_ite, xbd_s, zI_nat, zld, zst, zbd, zB_0, zB_1, lenX_s, zup_at, xgd, cond_true, cond_false, and_self, and_true, true_and, false_and, and_false, or_self, or_false, false_or, if_true, if_false, ite_true, ite_false, reduceIte, reduceCtorEq, Nat.reduceEqDiff, Nat.reduceAdd, Nat.reduceMul, Int.reduceNeg, Int.reduceAdd, Int.reduceSub, Int.reduceMul, Int.reduceLT, Int.reduceLE, Int.reduceEq, Int.reduceDiv, Int.reduceMod, Int.reduceToNat, Int.toNat_zero, Int.toNat_one, Nat.reduceLeDiff, Nat.reduceLT, ite_not, not_true, not_false_eq_true]
  | succ m ih =>
    intro k h0 h1 n hn
    obtain ⟨n, rfl⟩ := Nat.exists_eq_succ_of_ne_zero (show n ≠ 0 by omega)
    have f : zcp z 101 102 k 101 = z 101 := zcp_ne _ _ (by decide)
    have hx := ih (k + 1) (by omega) (by omega) n (by omega)
    rw [l_X12_keep_2]
    simp (maxSteps := 3000000) (disch := (first | exact hz _ _ | exact hv _ | exact hL | assumption | (simp (disch := decide) only [zup_ne]; exact hL) | (simp only [zR]; omega) | omega)) only [zLit, zI_div, hI_fs, hI_us, zI_add, zI_sub, zI_mul, zI_neg, zI_lt, zI_eq, zI_ite, xbd_s, zI_nat, zld, zst, zbd, zB_0, zB_1, lenX_s, zup_at, xgd, cond_true, cond_false, and_self, and_true, true_and, false_and, and_false, or_self, or_false, false_or, if_true, if_false, ite_true, ite_false, reduceIte, reduceCtorEq, Nat.reduceEqDiff, Nat.reduceAdd, Nat.reduceMul, Int.reduceNeg, Int.reduceAdd, Int.reduceSub, Int.reduceMul, Int.reduceLT, Int.reduceLE, Int.reduceEq, Int.reduceDiv, Int.reduceMod, Int.reduceToNat, Int.toNat_zero, Int.toNat_one, Nat.reduceLeDiff, Nat.reduceLT, ite_not, not_true, not_false_eq_true, f, zcp_up, hx]
    rw [if_pos (by omega)]
theorem m_again_l (d : Nat) {z : zH} : ∀ (m : Nat) (k : Int), 0 ≤ k → k + m = 572 → ∀ n, m < n → r_X12_again d n 12 [some (xR 28 100), some (xI (zI k))] [] (hI (zcp z 102 101 k)) = some (zI 1, hI (zcp z 102 101 572)) := by
  intro m
  induction m with
  | zero =>
    intro k h0 h1 n hn
    obtain ⟨n, rfl⟩ := Nat.exists_eq_succ_of_ne_zero (show n ≠ 0 by omega)
    have e : k = 572 := by omega
    subst e
    rw [l_X12_again_12]
    simp (maxSteps := 3000000) (disch := (first | exact hz _ _ | exact hv _ | exact hL | assumption | (simp (disch := decide) only [zup_ne]; exact hL) | (simp only [zR]; omega) | omega)) only [zLit, zI_div, hI_fs, hI_us, zI_add, zI_sub, zI_mul, zI_neg, zI_lt, zI_eq, zI_ite, xbd_s, zI_nat, zld, zst, zbd, zB_0, zB_1, lenX_s, zup_at, xgd, cond_true, cond_false, and_self, and_true, true_and, false_and, and_false, or_self, or_false, false_or, if_true, if_false, ite_true, ite_false, reduceIte, reduceCtorEq, Nat.reduceEqDiff, Nat.reduceAdd, Nat.reduceMul, Int.reduceNeg, Int.reduceAdd, Int.reduceSub, Int.reduceMul, Int.reduceLT, Int.reduceLE, Int.reduceEq, Int.reduceDiv, Int.reduceMod, Int.reduceToNat, Int.toNat_zero, Int.toNat_one, Nat.reduceLeDiff, Nat.reduceLT, ite_not, not_true, not_false_eq_true]
  | succ m ih =>
    intro k h0 h1 n hn
    obtain ⟨n, rfl⟩ := Nat.exists_eq_succ_of_ne_zero (show n ≠ 0 by omega)
    have f : zcp z 102 101 k 102 = z 102 := zcp_ne _ _ (by decide)
    have hx := ih (k + 1) (by omega) (by omega) n (by omega)
    rw [l_X12_again_12]
    simp (maxSteps := 3000000) (disch := (first | exact hz _ _ | exact hv _ | exact hL | assumption | (simp (disch := decide) only [zup_ne]; exact hL) | (simp only [zR]; omega) | omega)) only [zLit, zI_div, hI_fs, hI_us, zI_add, zI_sub, zI_mul, zI_neg, zI_lt, zI_eq, zI_ite, xbd_s, zI_nat, zld, zst, zbd, zB_0, zB_1, lenX_s, zup_at, xgd, cond_true, cond_false, and_self, and_true, true_and, false_and, and_false, or_self, or_false, false_or, if_true, if_false, ite_true, ite_false, reduceIte, reduceCtorEq, Nat.reduceEqDiff, Nat.reduceAdd, Nat.reduceMul, Int.reduceNeg, Int.reduceAdd, Int.reduceSub, Int.reduceMul, Int.reduceLT, Int.reduceLE, Int.reduceEq, Int.reduceDiv, Int.reduceMod, Int.reduceToNat, Int.toNat_zero, Int.toNat_one, Nat.reduceLeDiff, Nat.reduceLT, ite_not, not_true, not_false_eq_true, f, zcp_up, hx]
    rw [if_pos (by omega)]
theorem k_keep {z : zH} (h : Inv z) : two 148 260 [] z := by
  have hI0 := h
  obtain ⟨hz, hW, hK, hT, hO, hS, hF, hC⟩ := h
  obtain ⟨k0, ⟨⟨a6, b6⟩, ⟨a8, b8⟩, ⟨a10, b10⟩, ⟨a16, b16⟩, ⟨a18, b18⟩, ⟨a20, b20⟩⟩, -⟩ := hK
  obtain ⟨Z, E, y, f, c⟩ := c_wcp_23_1 hz
  have w := PWorld_cp_23_1 hW c a6 b6 a8 b8 a10 b10 a16 b16 a18 b18 a20 b20
  have h1 : zR 1 := by simp only [zR]; omega
  obtain ⟨z1, d1⟩ : ∃ z1, z1 = zup Z 0 2 1 := ⟨_, rfl⟩
  have y1 : zRR z1 := by rw [d1]; exact zRR_up y _ _ h1
  have E := E 57
  have m := m_keep_l 59 (z := z1) 572 0 (by omega) (by omega) 999999 (by omega)
  rw [zcp_0] at m
  obtain ⟨z2, d2⟩ : ∃ z2, z2 = zup (zcp z1 101 102 572) 100 2 1 := ⟨_, rfl⟩
  rw [← d2] at m
  have y2 : zRR z2 := by rw [d2]; exact zRR_up (zRR_cp y1 _ _ _) _ _ h1
  refine two_ex 1 z1 z2 h1 y1 ?_ ?_ ?_
  · rw [e_X11_keep]
    simp only [E, xbd_s, zLit, hI_us]
    rw [d1]
  · rw [e_X12_keep, show xF = 999999 + 1 from rfl, l_X12_keep_0]
    exact m
  · have g1 : ∀ o, o ≠ 0 → z1 o = Z o := fun o ho => by rw [d1]; exact zup_ne _ _ _ ho
    have g2 : ∀ o, o ≠ 100 → o ≠ 102 → z2 o = z1 o := fun o ho ho2 => by rw [d2, zup_ne _ _ _ ho, zcp_ne _ _ ho2]
    have g : ∀ o, o ≠ 0 → (o < 24 ∨ 44 < o) → o ≠ 100 → o ≠ 102 → z2 o = z o := by
      intro o o1 o2 o3 o4
      rw [g2 o o3 o4, g1 o o1]
      refine f o ?_
      cases q : [24, 25, 26, 27, 28, 29, 30, 31, 32, 33, 34, 35, 36, 37, 38, 39, 40, 41, 42, 43, 44].elem o with
      | false => rfl
      | true =>
        have q := List.elem_iff.mp q
        simp only [List.mem_cons, List.not_mem_nil, or_false] at q
        omega
    have gk : ∀ i, 1 ≤ i → i < 22 → z2 (23 + i) = Z (23 + i) := fun i i0 i1 => by rw [g2 _ (by omega) (by omega), g1 _ (by omega)]
    have g100 : ∀ k, k ≠ 2 → z2 100 k = z 100 k := by
      intro k hk
      rw [d2, zup_at, if_neg (by omega), zcp_ne _ _ (by decide), g1 100 (by decide), f 100 rfl]
    have g102 : ∀ k, 0 ≤ k → k < 572 → z2 102 k = z 101 k := by
      intro k k0 k1
      rw [d2, zup_ne _ _ _ (by decide), zcp_at _ ⟨k0, k1⟩, g1 101 (by decide), f 101 rfl]
    have e2 : z2 100 2 = 1 := by rw [d2, zup_at, if_pos ⟨rfl, rfl⟩]
    have e0 : z2 0 2 = 1 := by rw [g2 0 (by decide) (by decide), d1, zup_at, if_pos ⟨rfl, rfl⟩]
    have wk : PWorld 23 z2 (z2 102) := PWorld_t w gk (fun k hk => g102 k hk.1 hk.2)
    refine ⟨y2, PWorld_t hW (fun i i0 i1 => g _ (by omega) (by omega) (by omega) (by omega)) (fun k _ => by rw [g 101 (by omega) (by omega) (by omega) (by omega)]), ⟨by rw [e0, e2], ?_, Or.inr ⟨e2, wk⟩⟩, PTape_t hT (by rw [g 55 (by omega) (by omega) (by omega) (by omega)]) (g100 4 (by omega)) (g 56 (by omega) (by omega) (by omega) (by omega)) (g 103 (by omega) (by omega) (by omega) (by omega)), PRows_t hO (g 68 (by omega) (by omega) (by omega) (by omega)) (by rw [g 47 (by omega) (by omega) (by omega) (by omega)]) (by rw [g 47 (by omega) (by omega) (by omega) (by omega)]) (g100 31 (by omega)) (g 69 (by omega) (by omega) (by omega) (by omega)) (g 115 (by omega) (by omega) (by omega) (by omega)), PSheets_t hS (fun i hi => g _ (by omega) (by omega) (by omega) (by omega)) (g 117 (by omega) (by omega) (by omega) (by omega)) (g 118 (by omega) (by omega) (by omega) (by omega)) (g 119 (by omega) (by omega) (by omega) (by omega)), PShelves_t hF (g 70 (by omega) (by omega) (by omega) (by omega)) (g 71 (by omega) (by omega) (by omega) (by omega)) (g 120 (by omega) (by omega) (by omega) (by omega)) (g 121 (by omega) (by omega) (by omega) (by omega)) (g 122 (by omega) (by omega) (by omega) (by omega)), PTrace_t hC (by rw [g 66 (by omega) (by omega) (by omega) (by omega)]) (g100 40 (by omega)) (g 67 (by omega) (by omega) (by omega) (by omega)) (g 123 (by omega) (by omega) (by omega) (by omega))⟩
    exact ⟨⟨wk.2.2.1.1.1, wk.2.2.1.1.2.1⟩, ⟨wk.2.2.2.1.1.1, wk.2.2.2.1.1.2.1⟩, ⟨wk.2.2.2.2.1.1.1, wk.2.2.2.2.1.1.2.1⟩, ⟨wk.2.2.2.2.2.2.1.1.1, wk.2.2.2.2.2.2.1.1.2.1⟩, ⟨wk.2.2.2.2.2.2.2.1.1.1, wk.2.2.2.2.2.2.2.1.1.2.1⟩, wk.2.2.2.2.2.2.2.2.1.1, wk.2.2.2.2.2.2.2.2.1.2.1⟩
theorem k_again {z : zH} (h : Inv z) : two 149 261 [] z := by
  have hI0 := h
  obtain ⟨hz, hW, hK, hT, hO, hS, hF, hC⟩ := h
  obtain ⟨k0, -, hk⟩ := hK
  rcases hk with hk | ⟨hk, wk⟩
  · refine two_ro hI0 (-3) (by simp only [zR]; omega) ?_ ?_
    · rw [e_X11_again]
      repeat' (first | (with_reducible apply hs_f; (case h => (first | (simp (disch := (first | exact hz _ _ | exact hv _ | exact hL | assumption | (simp (disch := decide) only [zup_ne]; exact hL) | (simp only [zR]; omega) | omega)) only [zLit, zI_div, hI_fs, hI_us, zI_add, zI_sub, zI_mul, zI_neg, zI_lt, zI_eq, zI_ite, xbd_s, zI_nat, zld, zst, zbd, zB_0, zB_1, lenX_s, zup_at, xgd, cond_true, cond_false, and_self, and_true, true_and, false_and, and_false, or_self, or_false, false_or, if_true, if_false, ite_true, ite_false, reduceIte, reduceCtorEq, Nat.reduceEqDiff, Nat.reduceAdd, Nat.reduceMul, Int.reduceNeg, Int.reduceAdd, Int.reduceSub, Int.reduceMul, Int.reduceLT, Int.reduceLE, Int.reduceEq, Int.reduceDiv, Int.reduceMod, Int.reduceToNat, Int.toNat_zero, Int.toNat_one, Nat.reduceLeDiff, Nat.reduceLT, ite_not, not_true, not_false_eq_true, k0, hk] <;> omega) | omega))) | (with_reducible apply hs_t; (case h => (first | (simp (disch := (first | exact hz _ _ | exact hv _ | exact hL | assumption | (simp (disch := decide) only [zup_ne]; exact hL) | (simp only [zR]; omega) | omega)) only [zLit, zI_div, hI_fs, hI_us, zI_add, zI_sub, zI_mul, zI_neg, zI_lt, zI_eq, zI_ite, xbd_s, zI_nat, zld, zst, zbd, zB_0, zB_1, lenX_s, zup_at, xgd, cond_true, cond_false, and_self, and_true, true_and, false_and, and_false, or_self, or_false, false_or, if_true, if_false, ite_true, ite_false, reduceIte, reduceCtorEq, Nat.reduceEqDiff, Nat.reduceAdd, Nat.reduceMul, Int.reduceNeg, Int.reduceAdd, Int.reduceSub, Int.reduceMul, Int.reduceLT, Int.reduceLE, Int.reduceEq, Int.reduceDiv, Int.reduceMod, Int.reduceToNat, Int.toNat_zero, Int.toNat_one, Nat.reduceLeDiff, Nat.reduceLT, ite_not, not_true, not_false_eq_true, k0, hk] <;> omega) | omega))) | (with_reducible apply hs_b; (case h => (simp (disch := (first | exact hz _ _ | exact hv _ | exact hL | assumption | (simp (disch := decide) only [zup_ne]; exact hL) | (simp only [zR]; omega) | omega)) only [zLit, zI_div, hI_fs, hI_us, zI_add, zI_sub, zI_mul, zI_neg, zI_lt, zI_eq, zI_ite, xbd_s, zI_nat, zld, zst, zbd, zB_0, zB_1, lenX_s, zup_at, xgd, cond_true, cond_false, and_self, and_true, true_and, false_and, and_false, or_self, or_false, false_or, if_true, if_false, ite_true, ite_false, reduceIte, reduceCtorEq, Nat.reduceEqDiff, Nat.reduceAdd, Nat.reduceMul, Int.reduceNeg, Int.reduceAdd, Int.reduceSub, Int.reduceMul, Int.reduceLT, Int.reduceLE, Int.reduceEq, Int.reduceDiv, Int.reduceMod, Int.reduceToNat, Int.toNat_zero, Int.toNat_one, Nat.reduceLeDiff, Nat.reduceLT, ite_not, not_true, not_false_eq_true, k0, hk]; rfl)); try dsimp only) | (with_reducible apply hs_c <;> intro q9 <;> (try simp (disch := (first | exact hz _ _ | exact hv _ | exact hL | assumption | (simp (disch := decide) only [zup_ne]; exact hL) | (simp only [zR]; omega) | omega)) only [zLit, zI_div, hI_fs, hI_us, zI_add, zI_sub, zI_mul, zI_neg, zI_lt, zI_eq, zI_ite, xbd_s, zI_nat, zld, zst, zbd, zB_0, zB_1, lenX_s, zup_at, xgd, cond_true, cond_false, and_self, and_true, true_and, false_and, and_false, or_self, or_false, false_or, if_true, if_false, ite_true, ite_false, reduceIte, reduceCtorEq, Nat.reduceEqDiff, Nat.reduceAdd, Nat.reduceMul, Int.reduceNeg, Int.reduceAdd, Int.reduceSub, Int.reduceMul, Int.reduceLT, Int.reduceLE, Int.reduceEq, Int.reduceDiv, Int.reduceMod, Int.reduceToNat, Int.toNat_zero, Int.toNat_one, Nat.reduceLeDiff, Nat.reduceLT, ite_not, not_true, not_false_eq_true, k0, hk] at q9)))
      all_goals first | rfl | omega | (simp (maxSteps := 3000000) (disch := (first | exact hz _ _ | exact hv _ | exact hL | assumption | (simp (disch := decide) only [zup_ne]; exact hL) | (simp only [zR]; omega) | omega)) only [zLit, zI_div, hI_fs, hI_us, zI_add, zI_sub, zI_mul, zI_neg, zI_lt, zI_eq, zI_ite, xbd_s, zI_nat, zld, zst, zbd, zB_0, zB_1, lenX_s, zup_at, xgd, cond_true, cond_false, and_self, and_true, true_and, false_and, and_false, or_self, or_false, false_or, if_true, if_false, ite_true, ite_false, reduceIte, reduceCtorEq, Nat.reduceEqDiff, Nat.reduceAdd, Nat.reduceMul, Int.reduceNeg, Int.reduceAdd, Int.reduceSub, Int.reduceMul, Int.reduceLT, Int.reduceLE, Int.reduceEq, Int.reduceDiv, Int.reduceMod, Int.reduceToNat, Int.toNat_zero, Int.toNat_one, Nat.reduceLeDiff, Nat.reduceLT, ite_not, not_true, not_false_eq_true, k0, hk]; done) | (simp (maxSteps := 3000000) (disch := (first | exact hz _ _ | exact hv _ | exact hL | assumption | (simp (disch := decide) only [zup_ne]; exact hL) | (simp only [zR]; omega) | omega)) only [zLit, zI_div, hI_fs, hI_us, zI_add, zI_sub, zI_mul, zI_neg, zI_lt, zI_eq, zI_ite, xbd_s, zI_nat, zld, zst, zbd, zB_0, zB_1, lenX_s, zup_at, xgd, cond_true, cond_false, and_self, and_true, true_and, false_and, and_false, or_self, or_false, false_or, if_true, if_false, ite_true, ite_false, reduceIte, reduceCtorEq, Nat.reduceEqDiff, Nat.reduceAdd, Nat.reduceMul, Int.reduceNeg, Int.reduceAdd, Int.reduceSub, Int.reduceMul, Int.reduceLT, Int.reduceLE, Int.reduceEq, Int.reduceDiv, Int.reduceMod, Int.reduceToNat, Int.toNat_zero, Int.toNat_one, Nat.reduceLeDiff, Nat.reduceLT, ite_not, not_true, not_false_eq_true, k0, hk]; rfl)
    · rw [e_X12_again, show xF = 999999 + 1 from rfl, l_X12_again_0]
      repeat' (first | (with_reducible apply hs_f; (case h => (first | (simp (disch := (first | exact hz _ _ | exact hv _ | exact hL | assumption | (simp (disch := decide) only [zup_ne]; exact hL) | (simp only [zR]; omega) | omega)) only [zLit, zI_div, hI_fs, hI_us, zI_add, zI_sub, zI_mul, zI_neg, zI_lt, zI_eq, zI_ite, xbd_s, zI_nat, zld, zst, zbd, zB_0, zB_1, lenX_s, zup_at, xgd, cond_true, cond_false, and_self, and_true, true_and, false_and, and_false, or_self, or_false, false_or, if_true, if_false, ite_true, ite_false, reduceIte, reduceCtorEq, Nat.reduceEqDiff, Nat.reduceAdd, Nat.reduceMul, Int.reduceNeg, Int.reduceAdd, Int.reduceSub, Int.reduceMul, Int.reduceLT, Int.reduceLE, Int.reduceEq, Int.reduceDiv, Int.reduceMod, Int.reduceToNat, Int.toNat_zero, Int.toNat_one, Nat.reduceLeDiff, Nat.reduceLT, ite_not, not_true, not_false_eq_true, hk] <;> omega) | omega))) | (with_reducible apply hs_t; (case h => (first | (simp (disch := (first | exact hz _ _ | exact hv _ | exact hL | assumption | (simp (disch := decide) only [zup_ne]; exact hL) | (simp only [zR]; omega) | omega)) only [zLit, zI_div, hI_fs, hI_us, zI_add, zI_sub, zI_mul, zI_neg, zI_lt, zI_eq, zI_ite, xbd_s, zI_nat, zld, zst, zbd, zB_0, zB_1, lenX_s, zup_at, xgd, cond_true, cond_false, and_self, and_true, true_and, false_and, and_false, or_self, or_false, false_or, if_true, if_false, ite_true, ite_false, reduceIte, reduceCtorEq, Nat.reduceEqDiff, Nat.reduceAdd, Nat.reduceMul, Int.reduceNeg, Int.reduceAdd, Int.reduceSub, Int.reduceMul, Int.reduceLT, Int.reduceLE, Int.reduceEq, Int.reduceDiv, Int.reduceMod, Int.reduceToNat, Int.toNat_zero, Int.toNat_one, Nat.reduceLeDiff, Nat.reduceLT, ite_not, not_true, not_false_eq_true, hk] <;> omega) | omega))) | (with_reducible apply hs_b; (case h => (simp (disch := (first | exact hz _ _ | exact hv _ | exact hL | assumption | (simp (disch := decide) only [zup_ne]; exact hL) | (simp only [zR]; omega) | omega)) only [zLit, zI_div, hI_fs, hI_us, zI_add, zI_sub, zI_mul, zI_neg, zI_lt, zI_eq, zI_ite, xbd_s, zI_nat, zld, zst, zbd, zB_0, zB_1, lenX_s, zup_at, xgd, cond_true, cond_false, and_self, and_true, true_and, false_and, and_false, or_self, or_false, false_or, if_true, if_false, ite_true, ite_false, reduceIte, reduceCtorEq, Nat.reduceEqDiff, Nat.reduceAdd, Nat.reduceMul, Int.reduceNeg, Int.reduceAdd, Int.reduceSub, Int.reduceMul, Int.reduceLT, Int.reduceLE, Int.reduceEq, Int.reduceDiv, Int.reduceMod, Int.reduceToNat, Int.toNat_zero, Int.toNat_one, Nat.reduceLeDiff, Nat.reduceLT, ite_not, not_true, not_false_eq_true, hk]; rfl)); try dsimp only) | (with_reducible apply hs_c <;> intro q9 <;> (try simp (disch := (first | exact hz _ _ | exact hv _ | exact hL | assumption | (simp (disch := decide) only [zup_ne]; exact hL) | (simp only [zR]; omega) | omega)) only [zLit, zI_div, hI_fs, hI_us, zI_add, zI_sub, zI_mul, zI_neg, zI_lt, zI_eq, zI_ite, xbd_s, zI_nat, zld, zst, zbd, zB_0, zB_1, lenX_s, zup_at, xgd, cond_true, cond_false, and_self, and_true, true_and, false_and, and_false, or_self, or_false, false_or, if_true, if_false, ite_true, ite_false, reduceIte, reduceCtorEq, Nat.reduceEqDiff, Nat.reduceAdd, Nat.reduceMul, Int.reduceNeg, Int.reduceAdd, Int.reduceSub, Int.reduceMul, Int.reduceLT, Int.reduceLE, Int.reduceEq, Int.reduceDiv, Int.reduceMod, Int.reduceToNat, Int.toNat_zero, Int.toNat_one, Nat.reduceLeDiff, Nat.reduceLT, ite_not, not_true, not_false_eq_true, hk] at q9)))
      all_goals first | rfl | omega | (simp (maxSteps := 3000000) (disch := (first | exact hz _ _ | exact hv _ | exact hL | assumption | (simp (disch := decide) only [zup_ne]; exact hL) | (simp only [zR]; omega) | omega)) only [zLit, zI_div, hI_fs, hI_us, zI_add, zI_sub, zI_mul, zI_neg, zI_lt, zI_eq, zI_ite, xbd_s, zI_nat, zld, zst, zbd, zB_0, zB_1, lenX_s, zup_at, xgd, cond_true, cond_false, and_self, and_true, true_and, false_and, and_false, or_self, or_false, false_or, if_true, if_false, ite_true, ite_false, reduceIte, reduceCtorEq, Nat.reduceEqDiff, Nat.reduceAdd, Nat.reduceMul, Int.reduceNeg, Int.reduceAdd, Int.reduceSub, Int.reduceMul, Int.reduceLT, Int.reduceLE, Int.reduceEq, Int.reduceDiv, Int.reduceMod, Int.reduceToNat, Int.toNat_zero, Int.toNat_one, Nat.reduceLeDiff, Nat.reduceLT, ite_not, not_true, not_false_eq_true, hk]; done) | (simp (maxSteps := 3000000) (disch := (first | exact hz _ _ | exact hv _ | exact hL | assumption | (simp (disch := decide) only [zup_ne]; exact hL) | (simp only [zR]; omega) | omega)) only [zLit, zI_div, hI_fs, hI_us, zI_add, zI_sub, zI_mul, zI_neg, zI_lt, zI_eq, zI_ite, xbd_s, zI_nat, zld, zst, zbd, zB_0, zB_1, lenX_s, zup_at, xgd, cond_true, cond_false, and_self, and_true, true_and, false_and, and_false, or_self, or_false, false_or, if_true, if_false, ite_true, ite_false, reduceIte, reduceCtorEq, Nat.reduceEqDiff, Nat.reduceAdd, Nat.reduceMul, Int.reduceNeg, Int.reduceAdd, Int.reduceSub, Int.reduceMul, Int.reduceLT, Int.reduceLE, Int.reduceEq, Int.reduceDiv, Int.reduceMod, Int.reduceToNat, Int.toNat_zero, Int.toNat_one, Nat.reduceLeDiff, Nat.reduceLT, ite_not, not_true, not_false_eq_true, hk]; rfl)
  · obtain ⟨Z, E, y, f, c⟩ := c_wcp_1_23 hz
    have E := E 57
    have w := PWorld_cp_1_23 wk c hW.2.2.1.1.1 hW.2.2.1.1.2.1 hW.2.2.2.1.1.1 hW.2.2.2.1.1.2.1 hW.2.2.2.2.1.1.1 hW.2.2.2.2.1.1.2.1 hW.2.2.2.2.2.2.1.1.1 hW.2.2.2.2.2.2.1.1.2.1 hW.2.2.2.2.2.2.2.1.1.1 hW.2.2.2.2.2.2.2.1.1.2.1 hW.2.2.2.2.2.2.2.2.1.1 hW.2.2.2.2.2.2.2.2.1.2.1
    have h1 : zR 1 := by simp only [zR]; omega
    have m := m_again_l 59 (z := Z) 572 0 (by omega) (by omega) 999999 (by omega)
    rw [zcp_0] at m
    obtain ⟨z2, d2⟩ : ∃ z2, z2 = zcp Z 102 101 572 := ⟨_, rfl⟩
    rw [← d2] at m
    have y2 : zRR z2 := by rw [d2]; exact zRR_cp y _ _ _
    refine two_ex 1 Z z2 h1 y ?_ ?_ ?_
    · rw [e_X11_again, hI_n, show ((2 : Nat) : Int) = 2 from rfl, k0, hk, if_neg (by decide)]
      simp only [E, xbd_s, zLit]
    · rw [e_X12_again, show xF = 999999 + 1 from rfl, l_X12_again_0, hI_n, show ((2 : Nat) : Int) = 2 from rfl, f 100 rfl, hk, if_neg (by decide)]
      exact m
    · have g2 : ∀ o, o ≠ 101 → z2 o = Z o := fun o ho => by rw [d2, zcp_ne _ _ ho]
      have F : fr nowO z z2 := by
        rw [d2]
        exact fr_cp (fr_mono f rfl) _ _ rfl
      refine Inv_now hI0 y2 ?_ F
      refine PWorld_t w (fun i i0 i1 => g2 _ (by omega)) (fun k hk2 => ?_)
      rw [d2, zcp_at _ hk2, f 102 rfl]
