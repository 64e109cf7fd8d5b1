/-! TEST -/
theorem m_within (d : Nat) {a b c : Int} (ha : zR a) (hb : zR b) (hc : zR c) (h : xH) : cM (d + 1) 151 [xI (zI a), xI (zI b), xI (zI c)] h = some (zB (b ≤ a ∧ a ≤ c), h) := by
  rw [e_X12_within]
  simp (disch := (first | exact hz _ _ | assumption | (simp only [zR]; omega) | omega)) only [zLit, hI_fs, hI_us, zI_add, zI_sub, zI_mul, zI_neg, zI_lt, zI_eq, zI_ite, xbd_s, zB_0, zB_1, zld, zst, zbd, lenX_s, zup_at, xgd, cond_true, cond_false, and_self, and_true, true_and, false_and, and_false, or_self, or_false, false_or, if_true, if_false, ite_true, ite_false, reduceIte, reduceCtorEq, Nat.reduceEqDiff, Nat.reduceAdd, Int.reduceNeg, Int.reduceAdd, Int.reduceSub, Int.reduceMul, Int.reduceLT, Int.reduceLE, Int.reduceEq, Int.reduceDiv, Int.reduceMod, ite_not, not_true, not_false_eq_true]
  unfold zB
  grind
theorem m_is (d : Nat) {z : zH} (hz : ∀ o k, zR (z o k)) {a b : Int} (ha : zR a) (hb : 0 ≤ b ∧ b < 572) (hv : 0 ≤ z 101 b) : cM (d + 2) 152 [xR 28 100, xI (zI a), xI (zI b)] (hI z) = some (zB (0 ≤ a ∧ a < z 101 b), hI z) := by
  rw [e_X12_is]
  simp (disch := (first | exact hz _ _ | assumption | (simp only [zR]; omega) | omega)) only [zLit, hI_fs, hI_us, zI_add, zI_sub, zI_mul, zI_neg, zI_lt, zI_eq, zI_ite, xbd_s, zB_0, zB_1, zld, zst, zbd, lenX_s, zup_at, xgd, cond_true, cond_false, and_self, and_true, true_and, false_and, and_false, or_self, or_false, false_or, if_true, if_false, ite_true, ite_false, reduceIte, reduceCtorEq, Nat.reduceEqDiff, Nat.reduceAdd, Int.reduceNeg, Int.reduceAdd, Int.reduceSub, Int.reduceMul, Int.reduceLT, Int.reduceLE, Int.reduceEq, Int.reduceDiv, Int.reduceMod, ite_not, not_true, not_false_eq_true, m_within]
  unfold zB
  grind
theorem m_cells (d : Nat) {z : zH} (hz : ∀ o k, zR (z o k)) : cM (d + 1) 154 [xR 28 100] (hI z) = some (zI (z 101 0 * z 101 1), hI z) := by
  rw [e_X12_cells]
  simp (disch := (first | exact hz _ _ | assumption | (simp only [zR]; omega) | omega)) only [zLit, hI_fs, hI_us, zI_add, zI_sub, zI_mul, zI_neg, zI_lt, zI_eq, zI_ite, xbd_s, zB_0, zB_1, zld, zst, zbd, lenX_s, zup_at, xgd, cond_true, cond_false, and_self, and_true, true_and, false_and, and_false, or_self, or_false, false_or, if_true, if_false, ite_true, ite_false, reduceIte, reduceCtorEq, Nat.reduceEqDiff, Nat.reduceAdd, Int.reduceNeg, Int.reduceAdd, Int.reduceSub, Int.reduceMul, Int.reduceLT, Int.reduceLE, Int.reduceEq, Int.reduceDiv, Int.reduceMod, ite_not, not_true, not_false_eq_true]
theorem m_isDown (d : Nat) {z : zH} (hz : ∀ o k, zR (z o k)) (hc : 0 ≤ z 100 5 ∧ z 100 5 < 64) : cM (d + 1) 164 [xR 28 100] (hI z) = some (zB (z 100 8 ≤ z 101 (24 + z 100 5)), hI z) := by
  rw [e_X12_isDown]
  simp (disch := (first | exact hz _ _ | assumption | (simp only [zR]; omega) | omega)) only [zLit, hI_fs, hI_us, zI_add, zI_sub, zI_mul, zI_neg, zI_lt, zI_eq, zI_ite, xbd_s, zB_0, zB_1, zld, zst, zbd, lenX_s, zup_at, xgd, cond_true, cond_false, and_self, and_true, true_and, false_and, and_false, or_self, or_false, false_or, if_true, if_false, ite_true, ite_false, reduceIte, reduceCtorEq, Nat.reduceEqDiff, Nat.reduceAdd, Int.reduceNeg, Int.reduceAdd, Int.reduceSub, Int.reduceMul, Int.reduceLT, Int.reduceLE, Int.reduceEq, Int.reduceDiv, Int.reduceMod, ite_not, not_true, not_false_eq_true]
  unfold zB
  grind
theorem c_has (d : Nat) {z : zH} (hz : ∀ o k, zR (z o k)) {r : Nat} {i : Int} (hi : zR i) : cM (d + 1) 53 [xR 23 r, xI (zI i)] (hI z) = some (zB (0 ≤ i ∧ i < z r 3), hI z) := by
  rw [e_X7_has]
  simp (disch := (first | exact hz _ _ | assumption | (simp only [zR]; omega) | omega)) only [zLit, hI_fs, hI_us, zI_add, zI_sub, zI_mul, zI_neg, zI_lt, zI_eq, zI_ite, xbd_s, zB_0, zB_1, zld, zst, zbd, lenX_s, zup_at, xgd, cond_true, cond_false, and_self, and_true, true_and, false_and, and_false, or_self, or_false, false_or, if_true, if_false, ite_true, ite_false, reduceIte, reduceCtorEq, Nat.reduceEqDiff, Nat.reduceAdd, Int.reduceNeg, Int.reduceAdd, Int.reduceSub, Int.reduceMul, Int.reduceLT, Int.reduceLE, Int.reduceEq, Int.reduceDiv, Int.reduceMod, ite_not, not_true, not_false_eq_true]
  unfold zB
  grind
theorem c_number (d : Nat) {z : zH} (hz : ∀ o k, zR (z o k)) {r : Nat} {M W i k : Int} (hW : z r 1 = W) (hW2 : 1 ≤ W ∧ W ≤ 21) (hM : M ≤ 30) (hc : z r 3 ≤ M) (hl : (lenX (r + 1) : Int) = M * W) (hi : 0 ≤ i ∧ i < z r 3) (hk : 0 ≤ k ∧ k < W) :
    cM (d + 2) 55 [xR 23 r, xI (zI i), xI (zI k)] (hI z) = some (zI (z (r + 1) (i * W + k)), hI z) := by
  have h1 : i * W ≤ (M - 1) * W := Int.mul_le_mul_of_nonneg_right (by omega) (by omega)
  have h2 : 0 ≤ i * W := Int.mul_nonneg (by omega) (by omega)
  have h3 : (M - 1) * W = M * W - W := by rw [Int.sub_mul]; omega
  have h4 : M * W ≤ 30 * 21 := Int.le_trans (Int.mul_le_mul_of_nonneg_right hM (by omega)) (by omega)
  rw [e_X7_number]
  simp (disch := (first | exact hz _ _ | assumption | (simp only [zR]; omega) | omega)) only [zLit, hI_fs, hI_us, zI_add, zI_sub, zI_mul, zI_neg, zI_lt, zI_eq, zI_ite, xbd_s, zB_0, zB_1, zld, zst, zbd, lenX_s, zup_at, xgd, cond_true, cond_false, and_self, and_true, true_and, false_and, and_false, or_self, or_false, false_or, if_true, if_false, ite_true, ite_false, reduceIte, reduceCtorEq, Nat.reduceEqDiff, Nat.reduceAdd, Int.reduceNeg, Int.reduceAdd, Int.reduceSub, Int.reduceMul, Int.reduceLT, Int.reduceLE, Int.reduceEq, Int.reduceDiv, Int.reduceMod, ite_not, not_true, not_false_eq_true, c_has, hW]
  grind
theorem c_opened (d : Nat) {z : zH} (hz : ∀ o k, zR (z o k)) {r : Nat} (hc : 0 ≤ z r 3 ∧ z r 3 ≤ z r 0 ∧ z r 0 ≤ 30) : cM (d + 1) 54 [xR 23 r] (hI z) = (if z r 3 < z r 0 then some (zI (z r 3), hI (zup z r 3 (z r 3 + 1))) else some (zI (-2), hI z)) := by
  rw [e_X7_opened]
  simp (disch := (first | exact hz _ _ | assumption | (simp only [zR]; omega) | omega)) only [zLit, hI_fs, hI_us, zI_add, zI_sub, zI_mul, zI_neg, zI_lt, zI_eq, zI_ite, xbd_s, zB_0, zB_1, zld, zst, zbd, lenX_s, zup_at, xgd, cond_true, cond_false, and_self, and_true, true_and, false_and, and_false, or_self, or_false, false_or, if_true, if_false, ite_true, ite_false, reduceIte, reduceCtorEq, Nat.reduceEqDiff, Nat.reduceAdd, Int.reduceNeg, Int.reduceAdd, Int.reduceSub, Int.reduceMul, Int.reduceLT, Int.reduceLE, Int.reduceEq, Int.reduceDiv, Int.reduceMod, ite_not, not_true, not_false_eq_true]
  grind
