/-! PURE, part 36: ask -/
theorem m_formOn2 (d : Nat) {z : zH} (hz : zRR z) (hW : PWorld 1 z (z 101)) {s : Int} (hs : 0 ≤ s ∧ s ≤ 3) : cM (d + 3) 249 [xR 28 100, xI (zI s)] (hI z) = some (zI (spForm z s), hI z) := by
  have r7b : 0 ≤ z 101 7 ∧ z 101 7 ≤ 8 := hW.2.2.1.1.2.2.2.1
  have r9b : 0 ≤ z 101 9 ∧ z 101 9 ≤ 5 := hW.2.2.2.2.1.1.2.2.2.1
  have e1 := hz 121 s
  rw [e_X12_formOn]
  unfold spForm
  by_cases q1 : z 120 s = 1
  · by_cases q2 : 0 ≤ z 121 s ∧ z 121 s < z 101 7
    · repeat' (first | (with_reducible apply hs_f; (case h => (first | (simp (disch := (first | exact hz _ _ | exact hv _ | exact hL | assumption | (simp (disch := decide) only [zup_ne]; exact hL) | (simp only [zR]; omega) | omega)) only [zLit, zI_div, hI_fs, hI_us, zI_add, zI_sub, zI_mul, zI_neg, zI_lt, zI_eq, zI_ite, xbd_s, zI_nat, zld, zst, zbd, zB_0, zB_1, lenX_s, zup_at, xgd, cond_true, cond_false, and_self, and_true, true_and, false_and, and_false, or_self, or_false, false_or, if_true, if_false, ite_true, ite_false, reduceIte, reduceCtorEq, Nat.reduceEqDiff, Nat.reduceAdd, Nat.reduceMul, Int.reduceNeg, Int.reduceAdd, Int.reduceSub, Int.reduceMul, Int.reduceLT, Int.reduceLE, Int.reduceEq, Int.reduceDiv, Int.reduceMod, Int.reduceToNat, Int.toNat_zero, Int.toNat_one, Nat.reduceLeDiff, Nat.reduceLT, ite_not, not_true, not_false_eq_true, q1] <;> omega) | omega))) | (with_reducible apply hs_t; (case h => (first | (simp (disch := (first | exact hz _ _ | exact hv _ | exact hL | assumption | (simp (disch := decide) only [zup_ne]; exact hL) | (simp only [zR]; omega) | omega)) only [zLit, zI_div, hI_fs, hI_us, zI_add, zI_sub, zI_mul, zI_neg, zI_lt, zI_eq, zI_ite, xbd_s, zI_nat, zld, zst, zbd, zB_0, zB_1, lenX_s, zup_at, xgd, cond_true, cond_false, and_self, and_true, true_and, false_and, and_false, or_self, or_false, false_or, if_true, if_false, ite_true, ite_false, reduceIte, reduceCtorEq, Nat.reduceEqDiff, Nat.reduceAdd, Nat.reduceMul, Int.reduceNeg, Int.reduceAdd, Int.reduceSub, Int.reduceMul, Int.reduceLT, Int.reduceLE, Int.reduceEq, Int.reduceDiv, Int.reduceMod, Int.reduceToNat, Int.toNat_zero, Int.toNat_one, Nat.reduceLeDiff, Nat.reduceLT, ite_not, not_true, not_false_eq_true, q1] <;> omega) | omega))) | (with_reducible apply hs_b; (case h => (simp (disch := (first | exact hz _ _ | exact hv _ | exact hL | assumption | (simp (disch := decide) only [zup_ne]; exact hL) | (simp only [zR]; omega) | omega)) only [zLit, zI_div, hI_fs, hI_us, zI_add, zI_sub, zI_mul, zI_neg, zI_lt, zI_eq, zI_ite, xbd_s, zI_nat, zld, zst, zbd, zB_0, zB_1, lenX_s, zup_at, xgd, cond_true, cond_false, and_self, and_true, true_and, false_and, and_false, or_self, or_false, false_or, if_true, if_false, ite_true, ite_false, reduceIte, reduceCtorEq, Nat.reduceEqDiff, Nat.reduceAdd, Nat.reduceMul, Int.reduceNeg, Int.reduceAdd, Int.reduceSub, Int.reduceMul, Int.reduceLT, Int.reduceLE, Int.reduceEq, Int.reduceDiv, Int.reduceMod, Int.reduceToNat, Int.toNat_zero, Int.toNat_one, Nat.reduceLeDiff, Nat.reduceLT, ite_not, not_true, not_false_eq_true, q1, m_is, m_end]; rfl)); try dsimp only) | (with_reducible apply hs_c <;> intro q9 <;> (try simp (disch := (first | exact hz _ _ | exact hv _ | exact hL | assumption | (simp (disch := decide) only [zup_ne]; exact hL) | (simp only [zR]; omega) | omega)) only [zLit, zI_div, hI_fs, hI_us, zI_add, zI_sub, zI_mul, zI_neg, zI_lt, zI_eq, zI_ite, xbd_s, zI_nat, zld, zst, zbd, zB_0, zB_1, lenX_s, zup_at, xgd, cond_true, cond_false, and_self, and_true, true_and, false_and, and_false, or_self, or_false, false_or, if_true, if_false, ite_true, ite_false, reduceIte, reduceCtorEq, Nat.reduceEqDiff, Nat.reduceAdd, Nat.reduceMul, Int.reduceNeg, Int.reduceAdd, Int.reduceSub, Int.reduceMul, Int.reduceLT, Int.reduceLE, Int.reduceEq, Int.reduceDiv, Int.reduceMod, Int.reduceToNat, Int.toNat_zero, Int.toNat_one, Nat.reduceLeDiff, Nat.reduceLT, ite_not, not_true, not_false_eq_true, q1] at q9)))
      all_goals (try simp (maxSteps := 3000000) (disch := (first | exact hz _ _ | exact hv _ | exact hL | assumption | (simp (disch := decide) only [zup_ne]; exact hL) | (simp only [zR]; omega) | omega)) only [zLit, zI_div, hI_fs, hI_us, zI_add, zI_sub, zI_mul, zI_neg, zI_lt, zI_eq, zI_ite, xbd_s, zI_nat, zld, zst, zbd, zB_0, zB_1, lenX_s, zup_at, xgd, cond_true, cond_false, and_self, and_true, true_and, false_and, and_false, or_self, or_false, false_or, if_true, if_false, ite_true, ite_false, reduceIte, reduceCtorEq, Nat.reduceEqDiff, Nat.reduceAdd, Nat.reduceMul, Int.reduceNeg, Int.reduceAdd, Int.reduceSub, Int.reduceMul, Int.reduceLT, Int.reduceLE, Int.reduceEq, Int.reduceDiv, Int.reduceMod, Int.reduceToNat, Int.toNat_zero, Int.toNat_one, Nat.reduceLeDiff, Nat.reduceLT, ite_not, not_true, not_false_eq_true, q1, m_is, m_end, q2, Int.add_zero])
    · repeat' (first | (with_reducible apply hs_f; (case h => (first | (simp (disch := (first | exact hz _ _ | exact hv _ | exact hL | assumption | (simp (disch := decide) only [zup_ne]; exact hL) | (simp only [zR]; omega) | omega)) only [zLit, zI_div, hI_fs, hI_us, zI_add, zI_sub, zI_mul, zI_neg, zI_lt, zI_eq, zI_ite, xbd_s, zI_nat, zld, zst, zbd, zB_0, zB_1, lenX_s, zup_at, xgd, cond_true, cond_false, and_self, and_true, true_and, false_and, and_false, or_self, or_false, false_or, if_true, if_false, ite_true, ite_false, reduceIte, reduceCtorEq, Nat.reduceEqDiff, Nat.reduceAdd, Nat.reduceMul, Int.reduceNeg, Int.reduceAdd, Int.reduceSub, Int.reduceMul, Int.reduceLT, Int.reduceLE, Int.reduceEq, Int.reduceDiv, Int.reduceMod, Int.reduceToNat, Int.toNat_zero, Int.toNat_one, Nat.reduceLeDiff, Nat.reduceLT, ite_not, not_true, not_false_eq_true, q1] <;> omega) | omega))) | (with_reducible apply hs_t; (case h => (first | (simp (disch := (first | exact hz _ _ | exact hv _ | exact hL | assumption | (simp (disch := decide) only [zup_ne]; exact hL) | (simp only [zR]; omega) | omega)) only [zLit, zI_div, hI_fs, hI_us, zI_add, zI_sub, zI_mul, zI_neg, zI_lt, zI_eq, zI_ite, xbd_s, zI_nat, zld, zst, zbd, zB_0, zB_1, lenX_s, zup_at, xgd, cond_true, cond_false, and_self, and_true, true_and, false_and, and_false, or_self, or_false, false_or, if_true, if_false, ite_true, ite_false, reduceIte, reduceCtorEq, Nat.reduceEqDiff, Nat.reduceAdd, Nat.reduceMul, Int.reduceNeg, Int.reduceAdd, Int.reduceSub, Int.reduceMul, Int.reduceLT, Int.reduceLE, Int.reduceEq, Int.reduceDiv, Int.reduceMod, Int.reduceToNat, Int.toNat_zero, Int.toNat_one, Nat.reduceLeDiff, Nat.reduceLT, ite_not, not_true, not_false_eq_true, q1] <;> omega) | omega))) | (with_reducible apply hs_b; (case h => (simp (disch := (first | exact hz _ _ | exact hv _ | exact hL | assumption | (simp (disch := decide) only [zup_ne]; exact hL) | (simp only [zR]; omega) | omega)) only [zLit, zI_div, hI_fs, hI_us, zI_add, zI_sub, zI_mul, zI_neg, zI_lt, zI_eq, zI_ite, xbd_s, zI_nat, zld, zst, zbd, zB_0, zB_1, lenX_s, zup_at, xgd, cond_true, cond_false, and_self, and_true, true_and, false_and, and_false, or_self, or_false, false_or, if_true, if_false, ite_true, ite_false, reduceIte, reduceCtorEq, Nat.reduceEqDiff, Nat.reduceAdd, Nat.reduceMul, Int.reduceNeg, Int.reduceAdd, Int.reduceSub, Int.reduceMul, Int.reduceLT, Int.reduceLE, Int.reduceEq, Int.reduceDiv, Int.reduceMod, Int.reduceToNat, Int.toNat_zero, Int.toNat_one, Nat.reduceLeDiff, Nat.reduceLT, ite_not, not_true, not_false_eq_true, q1, m_is, m_end]; rfl)); try dsimp only) | (with_reducible apply hs_c <;> intro q9 <;> (try simp (disch := (first | exact hz _ _ | exact hv _ | exact hL | assumption | (simp (disch := decide) only [zup_ne]; exact hL) | (simp only [zR]; omega) | omega)) only [zLit, zI_div, hI_fs, hI_us, zI_add, zI_sub, zI_mul, zI_neg, zI_lt, zI_eq, zI_ite, xbd_s, zI_nat, zld, zst, zbd, zB_0, zB_1, lenX_s, zup_at, xgd, cond_true, cond_false, and_self, and_true, true_and, false_and, and_false, or_self, or_false, false_or, if_true, if_false, ite_true, ite_false, reduceIte, reduceCtorEq, Nat.reduceEqDiff, Nat.reduceAdd, Nat.reduceMul, Int.reduceNeg, Int.reduceAdd, Int.reduceSub, Int.reduceMul, Int.reduceLT, Int.reduceLE, Int.reduceEq, Int.reduceDiv, Int.reduceMod, Int.reduceToNat, Int.toNat_zero, Int.toNat_one, Nat.reduceLeDiff, Nat.reduceLT, ite_not, not_true, not_false_eq_true, q1] at q9)))
      all_goals simp only [q1, q2, if_true, if_false, reduceIte, Int.reduceEq, Int.reduceNeg, zLit, zI_neg]
  · by_cases q3 : z 120 s = 2
    · by_cases q2 : 0 ≤ z 121 s ∧ z 121 s < z 101 9
      · repeat' (first | (with_reducible apply hs_f; (case h => (first | (simp (disch := (first | exact hz _ _ | exact hv _ | exact hL | assumption | (simp (disch := decide) only [zup_ne]; exact hL) | (simp only [zR]; omega) | omega)) only [zLit, zI_div, hI_fs, hI_us, zI_add, zI_sub, zI_mul, zI_neg, zI_lt, zI_eq, zI_ite, xbd_s, zI_nat, zld, zst, zbd, zB_0, zB_1, lenX_s, zup_at, xgd, cond_true, cond_false, and_self, and_true, true_and, false_and, and_false, or_self, or_false, false_or, if_true, if_false, ite_true, ite_false, reduceIte, reduceCtorEq, Nat.reduceEqDiff, Nat.reduceAdd, Nat.reduceMul, Int.reduceNeg, Int.reduceAdd, Int.reduceSub, Int.reduceMul, Int.reduceLT, Int.reduceLE, Int.reduceEq, Int.reduceDiv, Int.reduceMod, Int.reduceToNat, Int.toNat_zero, Int.toNat_one, Nat.reduceLeDiff, Nat.reduceLT, ite_not, not_true, not_false_eq_true, q3] <;> omega) | omega))) | (with_reducible apply hs_t; (case h => (first | (simp (disch := (first | exact hz _ _ | exact hv _ | exact hL | assumption | (simp (disch := decide) only [zup_ne]; exact hL) | (simp only [zR]; omega) | omega)) only [zLit, zI_div, hI_fs, hI_us, zI_add, zI_sub, zI_mul, zI_neg, zI_lt, zI_eq, zI_ite, xbd_s, zI_nat, zld, zst, zbd, zB_0, zB_1, lenX_s, zup_at, xgd, cond_true, cond_false, and_self, and_true, true_and, false_and, and_false, or_self, or_false, false_or, if_true, if_false, ite_true, ite_false, reduceIte, reduceCtorEq, Nat.reduceEqDiff, Nat.reduceAdd, Nat.reduceMul, Int.reduceNeg, Int.reduceAdd, Int.reduceSub, Int.reduceMul, Int.reduceLT, Int.reduceLE, Int.reduceEq, Int.reduceDiv, Int.reduceMod, Int.reduceToNat, Int.toNat_zero, Int.toNat_one, Nat.reduceLeDiff, Nat.reduceLT, ite_not, not_true, not_false_eq_true, q3] <;> omega) | omega))) | (with_reducible apply hs_b; (case h => (simp (disch := (first | exact hz _ _ | exact hv _ | exact hL | assumption | (simp (disch := decide) only [zup_ne]; exact hL) | (simp only [zR]; omega) | omega)) only [zLit, zI_div, hI_fs, hI_us, zI_add, zI_sub, zI_mul, zI_neg, zI_lt, zI_eq, zI_ite, xbd_s, zI_nat, zld, zst, zbd, zB_0, zB_1, lenX_s, zup_at, xgd, cond_true, cond_false, and_self, and_true, true_and, false_and, and_false, or_self, or_false, false_or, if_true, if_false, ite_true, ite_false, reduceIte, reduceCtorEq, Nat.reduceEqDiff, Nat.reduceAdd, Nat.reduceMul, Int.reduceNeg, Int.reduceAdd, Int.reduceSub, Int.reduceMul, Int.reduceLT, Int.reduceLE, Int.reduceEq, Int.reduceDiv, Int.reduceMod, Int.reduceToNat, Int.toNat_zero, Int.toNat_one, Nat.reduceLeDiff, Nat.reduceLT, ite_not, not_true, not_false_eq_true, q3, m_is, m_end]; rfl)); try dsimp only) | (with_reducible apply hs_c <;> intro q9 <;> (try simp (disch := (first | exact hz _ _ | exact hv _ | exact hL | assumption | (simp (disch := decide) only [zup_ne]; exact hL) | (simp only [zR]; omega) | omega)) only [zLit, zI_div, hI_fs, hI_us, zI_add, zI_sub, zI_mul, zI_neg, zI_lt, zI_eq, zI_ite, xbd_s, zI_nat, zld, zst, zbd, zB_0, zB_1, lenX_s, zup_at, xgd, cond_true, cond_false, and_self, and_true, true_and, false_and, and_false, or_self, or_false, false_or, if_true, if_false, ite_true, ite_false, reduceIte, reduceCtorEq, Nat.reduceEqDiff, Nat.reduceAdd, Nat.reduceMul, Int.reduceNeg, Int.reduceAdd, Int.reduceSub, Int.reduceMul, Int.reduceLT, Int.reduceLE, Int.reduceEq, Int.reduceDiv, Int.reduceMod, Int.reduceToNat, Int.toNat_zero, Int.toNat_one, Nat.reduceLeDiff, Nat.reduceLT, ite_not, not_true, not_false_eq_true, q3] at q9)))
        all_goals simp only [q3, q2, if_true, if_false, reduceIte, Int.reduceEq, Int.reduceNeg, zLit, zI_neg, and_self]
      · repeat' (first | (with_reducible apply hs_f; (case h => (first | (simp (disch := (first | exact hz _ _ | exact hv _ | exact hL | assumption | (simp (disch := decide) only [zup_ne]; exact hL) | (simp only [zR]; omega) | omega)) only [zLit, zI_div, hI_fs, hI_us, zI_add, zI_sub, zI_mul, zI_neg, zI_lt, zI_eq, zI_ite, xbd_s, zI_nat, zld, zst, zbd, zB_0, zB_1, lenX_s, zup_at, xgd, cond_true, cond_false, and_self, and_true, true_and, false_and, and_false, or_self, or_false, false_or, if_true, if_false, ite_true, ite_false, reduceIte, reduceCtorEq, Nat.reduceEqDiff, Nat.reduceAdd, Nat.reduceMul, Int.reduceNeg, Int.reduceAdd, Int.reduceSub, Int.reduceMul, Int.reduceLT, Int.reduceLE, Int.reduceEq, Int.reduceDiv, Int.reduceMod, Int.reduceToNat, Int.toNat_zero, Int.toNat_one, Nat.reduceLeDiff, Nat.reduceLT, ite_not, not_true, not_false_eq_true, q3] <;> omega) | omega))) | (with_reducible apply hs_t; (case h => (first | (simp (disch := (first | exact hz _ _ | exact hv _ | exact hL | assumption | (simp (disch := decide) only [zup_ne]; exact hL) | (simp only [zR]; omega) | omega)) only [zLit, zI_div, hI_fs, hI_us, zI_add, zI_sub, zI_mul, zI_neg, zI_lt, zI_eq, zI_ite, xbd_s, zI_nat, zld, zst, zbd, zB_0, zB_1, lenX_s, zup_at, xgd, cond_true, cond_false, and_self, and_true, true_and, false_and, and_false, or_self, or_false, false_or, if_true, if_false, ite_true, ite_false, reduceIte, reduceCtorEq, Nat.reduceEqDiff, Nat.reduceAdd, Nat.reduceMul, Int.reduceNeg, Int.reduceAdd, Int.reduceSub, Int.reduceMul, Int.reduceLT, Int.reduceLE, Int.reduceEq, Int.reduceDiv, Int.reduceMod, Int.reduceToNat, Int.toNat_zero, Int.toNat_one, Nat.reduceLeDiff, Nat.reduceLT, ite_not, not_true, not_false_eq_true, q3] <;> omega) | omega))) | (with_reducible apply hs_b; (case h => (simp (disch := (first | exact hz _ _ | exact hv _ | exact hL | assumption | (simp (disch := decide) only [zup_ne]; exact hL) | (simp only [zR]; omega) | omega)) only [zLit, zI_div, hI_fs, hI_us, zI_add, zI_sub, zI_mul, zI_neg, zI_lt, zI_eq, zI_ite, xbd_s, zI_nat, zld, zst, zbd, zB_0, zB_1, lenX_s, zup_at, xgd, cond_true, cond_false, and_self, and_true, true_and, false_and, and_false, or_self, or_false, false_or, if_true, if_false, ite_true, ite_false, reduceIte, reduceCtorEq, Nat.reduceEqDiff, Nat.reduceAdd, Nat.reduceMul, Int.reduceNeg, Int.reduceAdd, Int.reduceSub, Int.reduceMul, Int.reduceLT, Int.reduceLE, Int.reduceEq, Int.reduceDiv, Int.reduceMod, Int.reduceToNat, Int.toNat_zero, Int.toNat_one, Nat.reduceLeDiff, Nat.reduceLT, ite_not, not_true, not_false_eq_true, q3, m_is, m_end]; rfl)); try dsimp only) | (with_reducible apply hs_c <;> intro q9 <;> (try simp (disch := (first | exact hz _ _ | exact hv _ | exact hL | assumption | (simp (disch := decide) only [zup_ne]; exact hL) | (simp only [zR]; omega) | omega)) only [zLit, zI_div, hI_fs, hI_us, zI_add, zI_sub, zI_mul, zI_neg, zI_lt, zI_eq, zI_ite, xbd_s, zI_nat, zld, zst, zbd, zB_0, zB_1, lenX_s, zup_at, xgd, cond_true, cond_false, and_self, and_true, true_and, false_and, and_false, or_self, or_false, false_or, if_true, if_false, ite_true, ite_false, reduceIte, reduceCtorEq, Nat.reduceEqDiff, Nat.reduceAdd, Nat.reduceMul, Int.reduceNeg, Int.reduceAdd, Int.reduceSub, Int.reduceMul, Int.reduceLT, Int.reduceLE, Int.reduceEq, Int.reduceDiv, Int.reduceMod, Int.reduceToNat, Int.toNat_zero, Int.toNat_one, Nat.reduceLeDiff, Nat.reduceLT, ite_not, not_true, not_false_eq_true, q3] at q9)))
        all_goals simp only [q3, q2, if_true, if_false, reduceIte, Int.reduceEq, Int.reduceNeg, zLit, zI_neg]
    · repeat' (first | (with_reducible apply hs_f; (case h => (first | (simp (disch := (first | exact hz _ _ | exact hv _ | exact hL | assumption | (simp (disch := decide) only [zup_ne]; exact hL) | (simp only [zR]; omega) | omega)) only [zLit, zI_div, hI_fs, hI_us, zI_add, zI_sub, zI_mul, zI_neg, zI_lt, zI_eq, zI_ite, xbd_s, zI_nat, zld, zst, zbd, zB_0, zB_1, lenX_s, zup_at, xgd, cond_true, cond_false, and_self, and_true, true_and, false_and, and_false, or_self, or_false, false_or, if_true, if_false, ite_true, ite_false, reduceIte, reduceCtorEq, Nat.reduceEqDiff, Nat.reduceAdd, Nat.reduceMul, Int.reduceNeg, Int.reduceAdd, Int.reduceSub, Int.reduceMul, Int.reduceLT, Int.reduceLE, Int.reduceEq, Int.reduceDiv, Int.reduceMod, Int.reduceToNat, Int.toNat_zero, Int.toNat_one, Nat.reduceLeDiff, Nat.reduceLT, ite_not, not_true, not_false_eq_true] <;> omega) | omega))) | (with_reducible apply hs_t; (case h => (first | (simp (disch := (first | exact hz _ _ | exact hv _ | exact hL | assumption | (simp (disch := decide) only [zup_ne]; exact hL) | (simp only [zR]; omega) | omega)) only [zLit, zI_div, hI_fs, hI_us, zI_add, zI_sub, zI_mul, zI_neg, zI_lt, zI_eq, zI_ite, xbd_s, zI_nat, zld, zst, zbd, zB_0, zB_1, lenX_s, zup_at, xgd, cond_true, cond_false, and_self, and_true, true_and, false_and, and_false, or_self, or_false, false_or, if_true, if_false, ite_true, ite_false, reduceIte, reduceCtorEq, Nat.reduceEqDiff, Nat.reduceAdd, Nat.reduceMul, Int.reduceNeg, Int.reduceAdd, Int.reduceSub, Int.reduceMul, Int.reduceLT, Int.reduceLE, Int.reduceEq, Int.reduceDiv, Int.reduceMod, Int.reduceToNat, Int.toNat_zero, Int.toNat_one, Nat.reduceLeDiff, Nat.reduceLT, ite_not, not_true, not_false_eq_true] <;> omega) | omega))) | (with_reducible apply hs_b; (case h => (simp (disch := (first | exact hz _ _ | exact hv _ | exact hL | assumption | (simp (disch := decide) only [zup_ne]; exact hL) | (simp only [zR]; omega) | omega)) only [zLit, zI_div, hI_fs, hI_us, zI_add, zI_sub, zI_mul, zI_neg, zI_lt, zI_eq, zI_ite, xbd_s, zI_nat, zld, zst, zbd, zB_0, zB_1, lenX_s, zup_at, xgd, cond_true, cond_false, and_self, and_true, true_and, false_and, and_false, or_self, or_false, false_or, if_true, if_false, ite_true, ite_false, reduceIte, reduceCtorEq, Nat.reduceEqDiff, Nat.reduceAdd, Nat.reduceMul, Int.reduceNeg, Int.reduceAdd, Int.reduceSub, Int.reduceMul, Int.reduceLT, Int.reduceLE, Int.reduceEq, Int.reduceDiv, Int.reduceMod, Int.reduceToNat, Int.toNat_zero, Int.toNat_one, Nat.reduceLeDiff, Nat.reduceLT, ite_not, not_true, not_false_eq_true, m_is, m_end]; rfl)); try dsimp only) | (with_reducible apply hs_c <;> intro q9 <;> (try simp (disch := (first | exact hz _ _ | exact hv _ | exact hL | assumption | (simp (disch := decide) only [zup_ne]; exact hL) | (simp only [zR]; omega) | omega)) only [zLit, zI_div, hI_fs, hI_us, zI_add, zI_sub, zI_mul, zI_neg, zI_lt, zI_eq, zI_ite, xbd_s, zI_nat, zld, zst, zbd, zB_0, zB_1, lenX_s, zup_at, xgd, cond_true, cond_false, and_self, and_true, true_and, false_and, and_false, or_self, or_false, false_or, if_true, if_false, ite_true, ite_false, reduceIte, reduceCtorEq, Nat.reduceEqDiff, Nat.reduceAdd, Nat.reduceMul, Int.reduceNeg, Int.reduceAdd, Int.reduceSub, Int.reduceMul, Int.reduceLT, Int.reduceLE, Int.reduceEq, Int.reduceDiv, Int.reduceMod, Int.reduceToNat, Int.toNat_zero, Int.toNat_one, Nat.reduceLeDiff, Nat.reduceLT, ite_not, not_true, not_false_eq_true] at q9)))
      all_goals simp only [q1, q3, if_true, if_false, reduceIte, Int.reduceEq, Int.reduceNeg, zLit, zI_neg]
theorem spForm_b2 {z : zH} (hW : PWorld 1 z (z 101)) {s : Int} : spForm z s = -1 ∨ (1 ≤ spForm z s ∧ spForm z s ≤ 6) := by
  unfold spForm
  split
  · split
    · rename_i q
      have := (hW.2.2.1.2 (z 121 s) q.1 q.2).1
      right; omega
    · left; rfl
  · split
    · split
      · right; omega
      · left; rfl
    · left; rfl
theorem c_formOn2 (d : Nat) {z : zH} (hz : zRR z) (hW : PWorld 1 z (z 101)) (hSh : PShelves z) {s : Int} (hs : 0 ≤ s ∧ s ≤ 3) : cM (d + 3) 143 [xR 27 0, xI (zI s)] (hI z) = some (zI (if z 120 s = 3 then 10 + z 121 s else if spForm z s = -1 then -11 else spForm z s), hI z) := by
  obtain ⟨⟨s0, s1, s3⟩, hF⟩ := hSh
  have hE : PEnds 7 z (z 101) := hW.2.2.1
  have hX : PScenes 11 z (z 101) := hW.2.2.2.2.1
  have r7 : z 7 3 = z 101 7 := hE.1.2.2.1
  have r9 : z 11 3 = z 101 9 := hX.1.2.2.1
  have hb := spForm_b2 hW (s := s)
  have h0 := c_shelfN d hz s1 s3 hs (k := 0) (by omega)
  have h1 := c_shelfN d hz s1 s3 hs (k := 1) (by omega)
  have h2 := c_shelfN d hz s1 s3 hs (k := 2) (by omega)
  rw [Int.add_zero] at h0
  rw [e_X11_formOn]
  rcases hF s hs.1 (by omega) with ⟨a, b⟩ | ⟨a, b, c⟩ | ⟨a, b, c⟩ | ⟨a, b, c, e, f, g⟩
  · have w : spForm z s = -1 := by unfold spForm; rw [if_neg (by omega), if_neg (by omega)]
    rw [a] at h0
    simp only [zLit, h0, h1, xbd_s]
    repeat' (first | (with_reducible apply hs_f; (case h => (first | (simp (disch := (first | exact hz _ _ | exact hv _ | exact hL | assumption | (simp (disch := decide) only [zup_ne]; exact hL) | (simp only [zR]; omega) | omega)) only [zLit, zI_div, hI_fs, hI_us, zI_add, zI_sub, zI_mul, zI_neg, zI_lt, zI_eq, zI_ite, xbd_s, zI_nat, zld, zst, zbd, zB_0, zB_1, lenX_s, zup_at, xgd, cond_true, cond_false, and_self, and_true, true_and, false_and, and_false, or_self, or_false, false_or, if_true, if_false, ite_true, ite_false, reduceIte, reduceCtorEq, Nat.reduceEqDiff, Nat.reduceAdd, Nat.reduceMul, Int.reduceNeg, Int.reduceAdd, Int.reduceSub, Int.reduceMul, Int.reduceLT, Int.reduceLE, Int.reduceEq, Int.reduceDiv, Int.reduceMod, Int.reduceToNat, Int.toNat_zero, Int.toNat_one, Nat.reduceLeDiff, Nat.reduceLT, ite_not, not_true, not_false_eq_true] <;> omega) | omega))) | (with_reducible apply hs_t; (case h => (first | (simp (disch := (first | exact hz _ _ | exact hv _ | exact hL | assumption | (simp (disch := decide) only [zup_ne]; exact hL) | (simp only [zR]; omega) | omega)) only [zLit, zI_div, hI_fs, hI_us, zI_add, zI_sub, zI_mul, zI_neg, zI_lt, zI_eq, zI_ite, xbd_s, zI_nat, zld, zst, zbd, zB_0, zB_1, lenX_s, zup_at, xgd, cond_true, cond_false, and_self, and_true, true_and, false_and, and_false, or_self, or_false, false_or, if_true, if_false, ite_true, ite_false, reduceIte, reduceCtorEq, Nat.reduceEqDiff, Nat.reduceAdd, Nat.reduceMul, Int.reduceNeg, Int.reduceAdd, Int.reduceSub, Int.reduceMul, Int.reduceLT, Int.reduceLE, Int.reduceEq, Int.reduceDiv, Int.reduceMod, Int.reduceToNat, Int.toNat_zero, Int.toNat_one, Nat.reduceLeDiff, Nat.reduceLT, ite_not, not_true, not_false_eq_true] <;> omega) | omega))) | (with_reducible apply hs_b; (case h => (simp (disch := (first | exact hz _ _ | exact hv _ | exact hL | assumption | (simp (disch := decide) only [zup_ne]; exact hL) | (simp only [zR]; omega) | omega)) only [zLit, zI_div, hI_fs, hI_us, zI_add, zI_sub, zI_mul, zI_neg, zI_lt, zI_eq, zI_ite, xbd_s, zI_nat, zld, zst, zbd, zB_0, zB_1, lenX_s, zup_at, xgd, cond_true, cond_false, and_self, and_true, true_and, false_and, and_false, or_self, or_false, false_or, if_true, if_false, ite_true, ite_false, reduceIte, reduceCtorEq, Nat.reduceEqDiff, Nat.reduceAdd, Nat.reduceMul, Int.reduceNeg, Int.reduceAdd, Int.reduceSub, Int.reduceMul, Int.reduceLT, Int.reduceLE, Int.reduceEq, Int.reduceDiv, Int.reduceMod, Int.reduceToNat, Int.toNat_zero, Int.toNat_one, Nat.reduceLeDiff, Nat.reduceLT, ite_not, not_true, not_false_eq_true]; rfl)); try dsimp only) | (with_reducible apply hs_c <;> intro q9 <;> (try simp (disch := (first | exact hz _ _ | exact hv _ | exact hL | assumption | (simp (disch := decide) only [zup_ne]; exact hL) | (simp only [zR]; omega) | omega)) only [zLit, zI_div, hI_fs, hI_us, zI_add, zI_sub, zI_mul, zI_neg, zI_lt, zI_eq, zI_ite, xbd_s, zI_nat, zld, zst, zbd, zB_0, zB_1, lenX_s, zup_at, xgd, cond_true, cond_false, and_self, and_true, true_and, false_and, and_false, or_self, or_false, false_or, if_true, if_false, ite_true, ite_false, reduceIte, reduceCtorEq, Nat.reduceEqDiff, Nat.reduceAdd, Nat.reduceMul, Int.reduceNeg, Int.reduceAdd, Int.reduceSub, Int.reduceMul, Int.reduceLT, Int.reduceLE, Int.reduceEq, Int.reduceDiv, Int.reduceMod, Int.reduceToNat, Int.toNat_zero, Int.toNat_one, Nat.reduceLeDiff, Nat.reduceLT, ite_not, not_true, not_false_eq_true] at q9)))
    all_goals simp only [w, b, if_true, if_false, reduceIte, Int.reduceEq, Int.reduceNeg, zLit, zI_neg]
  · rw [a] at h0
    rw [c] at h1
    have w : spForm z s = if 0 ≤ z 121 s ∧ z 121 s < z 101 7 then z 101 (152 + 5 * z 121 s) else -1 := by unfold spForm; rw [if_pos b]
    have i1 := hz 121 s
    simp only [zLit, h0, h1, xbd_s]
    by_cases q : 0 ≤ z 121 s ∧ z 121 s < z 101 7
    · rw [if_pos q] at w
      have v1 := (hE.2 _ q.1 q.2).1
      have k := c_endN d hz hE (e := z 121 s) (f := 0) q (by omega)
      rw [Int.add_zero] at k
      repeat' (first | (with_reducible apply hs_f; (case h => (first | (simp (disch := (first | exact hz _ _ | exact hv _ | exact hL | assumption | (simp (disch := decide) only [zup_ne]; exact hL) | (simp only [zR]; omega) | omega)) only [zLit, zI_div, hI_fs, hI_us, zI_add, zI_sub, zI_mul, zI_neg, zI_lt, zI_eq, zI_ite, xbd_s, zI_nat, zld, zst, zbd, zB_0, zB_1, lenX_s, zup_at, xgd, cond_true, cond_false, and_self, and_true, true_and, false_and, and_false, or_self, or_false, false_or, if_true, if_false, ite_true, ite_false, reduceIte, reduceCtorEq, Nat.reduceEqDiff, Nat.reduceAdd, Nat.reduceMul, Int.reduceNeg, Int.reduceAdd, Int.reduceSub, Int.reduceMul, Int.reduceLT, Int.reduceLE, Int.reduceEq, Int.reduceDiv, Int.reduceMod, Int.reduceToNat, Int.toNat_zero, Int.toNat_one, Nat.reduceLeDiff, Nat.reduceLT, ite_not, not_true, not_false_eq_true, r7] <;> omega) | omega))) | (with_reducible apply hs_t; (case h => (first | (simp (disch := (first | exact hz _ _ | exact hv _ | exact hL | assumption | (simp (disch := decide) only [zup_ne]; exact hL) | (simp only [zR]; omega) | omega)) only [zLit, zI_div, hI_fs, hI_us, zI_add, zI_sub, zI_mul, zI_neg, zI_lt, zI_eq, zI_ite, xbd_s, zI_nat, zld, zst, zbd, zB_0, zB_1, lenX_s, zup_at, xgd, cond_true, cond_false, and_self, and_true, true_and, false_and, and_false, or_self, or_false, false_or, if_true, if_false, ite_true, ite_false, reduceIte, reduceCtorEq, Nat.reduceEqDiff, Nat.reduceAdd, Nat.reduceMul, Int.reduceNeg, Int.reduceAdd, Int.reduceSub, Int.reduceMul, Int.reduceLT, Int.reduceLE, Int.reduceEq, Int.reduceDiv, Int.reduceMod, Int.reduceToNat, Int.toNat_zero, Int.toNat_one, Nat.reduceLeDiff, Nat.reduceLT, ite_not, not_true, not_false_eq_true, r7] <;> omega) | omega))) | (with_reducible apply hs_b; (case h => (simp (disch := (first | exact hz _ _ | exact hv _ | exact hL | assumption | (simp (disch := decide) only [zup_ne]; exact hL) | (simp only [zR]; omega) | omega)) only [zLit, zI_div, hI_fs, hI_us, zI_add, zI_sub, zI_mul, zI_neg, zI_lt, zI_eq, zI_ite, xbd_s, zI_nat, zld, zst, zbd, zB_0, zB_1, lenX_s, zup_at, xgd, cond_true, cond_false, and_self, and_true, true_and, false_and, and_false, or_self, or_false, false_or, if_true, if_false, ite_true, ite_false, reduceIte, reduceCtorEq, Nat.reduceEqDiff, Nat.reduceAdd, Nat.reduceMul, Int.reduceNeg, Int.reduceAdd, Int.reduceSub, Int.reduceMul, Int.reduceLT, Int.reduceLE, Int.reduceEq, Int.reduceDiv, Int.reduceMod, Int.reduceToNat, Int.toNat_zero, Int.toNat_one, Nat.reduceLeDiff, Nat.reduceLT, ite_not, not_true, not_false_eq_true, r7, c_rHas]; rfl)); try dsimp only) | (with_reducible apply hs_c <;> intro q9 <;> (try simp (disch := (first | exact hz _ _ | exact hv _ | exact hL | assumption | (simp (disch := decide) only [zup_ne]; exact hL) | (simp only [zR]; omega) | omega)) only [zLit, zI_div, hI_fs, hI_us, zI_add, zI_sub, zI_mul, zI_neg, zI_lt, zI_eq, zI_ite, xbd_s, zI_nat, zld, zst, zbd, zB_0, zB_1, lenX_s, zup_at, xgd, cond_true, cond_false, and_self, and_true, true_and, false_and, and_false, or_self, or_false, false_or, if_true, if_false, ite_true, ite_false, reduceIte, reduceCtorEq, Nat.reduceEqDiff, Nat.reduceAdd, Nat.reduceMul, Int.reduceNeg, Int.reduceAdd, Int.reduceSub, Int.reduceMul, Int.reduceLT, Int.reduceLE, Int.reduceEq, Int.reduceDiv, Int.reduceMod, Int.reduceToNat, Int.toNat_zero, Int.toNat_one, Nat.reduceLeDiff, Nat.reduceLT, ite_not, not_true, not_false_eq_true, r7] at q9)))
      simp only [k, zLit, xbd_s]
      rw [if_neg (by omega), if_neg (by omega), w]
    · rw [if_neg q] at w
      repeat' (first | (with_reducible apply hs_f; (case h => (first | (simp (disch := (first | exact hz _ _ | exact hv _ | exact hL | assumption | (simp (disch := decide) only [zup_ne]; exact hL) | (simp only [zR]; omega) | omega)) only [zLit, zI_div, hI_fs, hI_us, zI_add, zI_sub, zI_mul, zI_neg, zI_lt, zI_eq, zI_ite, xbd_s, zI_nat, zld, zst, zbd, zB_0, zB_1, lenX_s, zup_at, xgd, cond_true, cond_false, and_self, and_true, true_and, false_and, and_false, or_self, or_false, false_or, if_true, if_false, ite_true, ite_false, reduceIte, reduceCtorEq, Nat.reduceEqDiff, Nat.reduceAdd, Nat.reduceMul, Int.reduceNeg, Int.reduceAdd, Int.reduceSub, Int.reduceMul, Int.reduceLT, Int.reduceLE, Int.reduceEq, Int.reduceDiv, Int.reduceMod, Int.reduceToNat, Int.toNat_zero, Int.toNat_one, Nat.reduceLeDiff, Nat.reduceLT, ite_not, not_true, not_false_eq_true, r7] <;> omega) | omega))) | (with_reducible apply hs_t; (case h => (first | (simp (disch := (first | exact hz _ _ | exact hv _ | exact hL | assumption | (simp (disch := decide) only [zup_ne]; exact hL) | (simp only [zR]; omega) | omega)) only [zLit, zI_div, hI_fs, hI_us, zI_add, zI_sub, zI_mul, zI_neg, zI_lt, zI_eq, zI_ite, xbd_s, zI_nat, zld, zst, zbd, zB_0, zB_1, lenX_s, zup_at, xgd, cond_true, cond_false, and_self, and_true, true_and, false_and, and_false, or_self, or_false, false_or, if_true, if_false, ite_true, ite_false, reduceIte, reduceCtorEq, Nat.reduceEqDiff, Nat.reduceAdd, Nat.reduceMul, Int.reduceNeg, Int.reduceAdd, Int.reduceSub, Int.reduceMul, Int.reduceLT, Int.reduceLE, Int.reduceEq, Int.reduceDiv, Int.reduceMod, Int.reduceToNat, Int.toNat_zero, Int.toNat_one, Nat.reduceLeDiff, Nat.reduceLT, ite_not, not_true, not_false_eq_true, r7] <;> omega) | omega))) | (with_reducible apply hs_b; (case h => (simp (disch := (first | exact hz _ _ | exact hv _ | exact hL | assumption | (simp (disch := decide) only [zup_ne]; exact hL) | (simp only [zR]; omega) | omega)) only [zLit, zI_div, hI_fs, hI_us, zI_add, zI_sub, zI_mul, zI_neg, zI_lt, zI_eq, zI_ite, xbd_s, zI_nat, zld, zst, zbd, zB_0, zB_1, lenX_s, zup_at, xgd, cond_true, cond_false, and_self, and_true, true_and, false_and, and_false, or_self, or_false, false_or, if_true, if_false, ite_true, ite_false, reduceIte, reduceCtorEq, Nat.reduceEqDiff, Nat.reduceAdd, Nat.reduceMul, Int.reduceNeg, Int.reduceAdd, Int.reduceSub, Int.reduceMul, Int.reduceLT, Int.reduceLE, Int.reduceEq, Int.reduceDiv, Int.reduceMod, Int.reduceToNat, Int.toNat_zero, Int.toNat_one, Nat.reduceLeDiff, Nat.reduceLT, ite_not, not_true, not_false_eq_true, r7, c_rHas]; rfl)); try dsimp only) | (with_reducible apply hs_c <;> intro q9 <;> (try simp (disch := (first | exact hz _ _ | exact hv _ | exact hL | assumption | (simp (disch := decide) only [zup_ne]; exact hL) | (simp only [zR]; omega) | omega)) only [zLit, zI_div, hI_fs, hI_us, zI_add, zI_sub, zI_mul, zI_neg, zI_lt, zI_eq, zI_ite, xbd_s, zI_nat, zld, zst, zbd, zB_0, zB_1, lenX_s, zup_at, xgd, cond_true, cond_false, and_self, and_true, true_and, false_and, and_false, or_self, or_false, false_or, if_true, if_false, ite_true, ite_false, reduceIte, reduceCtorEq, Nat.reduceEqDiff, Nat.reduceAdd, Nat.reduceMul, Int.reduceNeg, Int.reduceAdd, Int.reduceSub, Int.reduceMul, Int.reduceLT, Int.reduceLE, Int.reduceEq, Int.reduceDiv, Int.reduceMod, Int.reduceToNat, Int.toNat_zero, Int.toNat_one, Nat.reduceLeDiff, Nat.reduceLT, ite_not, not_true, not_false_eq_true, r7] at q9)))
      all_goals simp only [w, b, if_true, if_false, reduceIte, Int.reduceEq, Int.reduceNeg, zLit, zI_neg]
  · rw [a] at h0
    rw [c] at h1
    have w : spForm z s = if 0 ≤ z 121 s ∧ z 121 s < z 101 9 then 6 else -1 := by unfold spForm; rw [if_neg (by omega), if_pos b]
    have i1 := hz 121 s
    simp only [zLit, h0, h1, xbd_s]
    by_cases q : 0 ≤ z 121 s ∧ z 121 s < z 101 9
    · rw [if_pos q] at w
      repeat' (first | (with_reducible apply hs_f; (case h => (first | (simp (disch := (first | exact hz _ _ | exact hv _ | exact hL | assumption | (simp (disch := decide) only [zup_ne]; exact hL) | (simp only [zR]; omega) | omega)) only [zLit, zI_div, hI_fs, hI_us, zI_add, zI_sub, zI_mul, zI_neg, zI_lt, zI_eq, zI_ite, xbd_s, zI_nat, zld, zst, zbd, zB_0, zB_1, lenX_s, zup_at, xgd, cond_true, cond_false, and_self, and_true, true_and, false_and, and_false, or_self, or_false, false_or, if_true, if_false, ite_true, ite_false, reduceIte, reduceCtorEq, Nat.reduceEqDiff, Nat.reduceAdd, Nat.reduceMul, Int.reduceNeg, Int.reduceAdd, Int.reduceSub, Int.reduceMul, Int.reduceLT, Int.reduceLE, Int.reduceEq, Int.reduceDiv, Int.reduceMod, Int.reduceToNat, Int.toNat_zero, Int.toNat_one, Nat.reduceLeDiff, Nat.reduceLT, ite_not, not_true, not_false_eq_true, r9] <;> omega) | omega))) | (with_reducible apply hs_t; (case h => (first | (simp (disch := (first | exact hz _ _ | exact hv _ | exact hL | assumption | (simp (disch := decide) only [zup_ne]; exact hL) | (simp only [zR]; omega) | omega)) only [zLit, zI_div, hI_fs, hI_us, zI_add, zI_sub, zI_mul, zI_neg, zI_lt, zI_eq, zI_ite, xbd_s, zI_nat, zld, zst, zbd, zB_0, zB_1, lenX_s, zup_at, xgd, cond_true, cond_false, and_self, and_true, true_and, false_and, and_false, or_self, or_false, false_or, if_true, if_false, ite_true, ite_false, reduceIte, reduceCtorEq, Nat.reduceEqDiff, Nat.reduceAdd, Nat.reduceMul, Int.reduceNeg, Int.reduceAdd, Int.reduceSub, Int.reduceMul, Int.reduceLT, Int.reduceLE, Int.reduceEq, Int.reduceDiv, Int.reduceMod, Int.reduceToNat, Int.toNat_zero, Int.toNat_one, Nat.reduceLeDiff, Nat.reduceLT, ite_not, not_true, not_false_eq_true, r9] <;> omega) | omega))) | (with_reducible apply hs_b; (case h => (simp (disch := (first | exact hz _ _ | exact hv _ | exact hL | assumption | (simp (disch := decide) only [zup_ne]; exact hL) | (simp only [zR]; omega) | omega)) only [zLit, zI_div, hI_fs, hI_us, zI_add, zI_sub, zI_mul, zI_neg, zI_lt, zI_eq, zI_ite, xbd_s, zI_nat, zld, zst, zbd, zB_0, zB_1, lenX_s, zup_at, xgd, cond_true, cond_false, and_self, and_true, true_and, false_and, and_false, or_self, or_false, false_or, if_true, if_false, ite_true, ite_false, reduceIte, reduceCtorEq, Nat.reduceEqDiff, Nat.reduceAdd, Nat.reduceMul, Int.reduceNeg, Int.reduceAdd, Int.reduceSub, Int.reduceMul, Int.reduceLT, Int.reduceLE, Int.reduceEq, Int.reduceDiv, Int.reduceMod, Int.reduceToNat, Int.toNat_zero, Int.toNat_one, Nat.reduceLeDiff, Nat.reduceLT, ite_not, not_true, not_false_eq_true, r9, c_rHas]; rfl)); try dsimp only) | (with_reducible apply hs_c <;> intro q9 <;> (try simp (disch := (first | exact hz _ _ | exact hv _ | exact hL | assumption | (simp (disch := decide) only [zup_ne]; exact hL) | (simp only [zR]; omega) | omega)) only [zLit, zI_div, hI_fs, hI_us, zI_add, zI_sub, zI_mul, zI_neg, zI_lt, zI_eq, zI_ite, xbd_s, zI_nat, zld, zst, zbd, zB_0, zB_1, lenX_s, zup_at, xgd, cond_true, cond_false, and_self, and_true, true_and, false_and, and_false, or_self, or_false, false_or, if_true, if_false, ite_true, ite_false, reduceIte, reduceCtorEq, Nat.reduceEqDiff, Nat.reduceAdd, Nat.reduceMul, Int.reduceNeg, Int.reduceAdd, Int.reduceSub, Int.reduceMul, Int.reduceLT, Int.reduceLE, Int.reduceEq, Int.reduceDiv, Int.reduceMod, Int.reduceToNat, Int.toNat_zero, Int.toNat_one, Nat.reduceLeDiff, Nat.reduceLT, ite_not, not_true, not_false_eq_true, r9] at q9)))
      all_goals simp only [w, b, if_true, if_false, reduceIte, Int.reduceEq, Int.reduceNeg, zLit, zI_neg]
    · rw [if_neg q] at w
      repeat' (first | (with_reducible apply hs_f; (case h => (first | (simp (disch := (first | exact hz _ _ | exact hv _ | exact hL | assumption | (simp (disch := decide) only [zup_ne]; exact hL) | (simp only [zR]; omega) | omega)) only [zLit, zI_div, hI_fs, hI_us, zI_add, zI_sub, zI_mul, zI_neg, zI_lt, zI_eq, zI_ite, xbd_s, zI_nat, zld, zst, zbd, zB_0, zB_1, lenX_s, zup_at, xgd, cond_true, cond_false, and_self, and_true, true_and, false_and, and_false, or_self, or_false, false_or, if_true, if_false, ite_true, ite_false, reduceIte, reduceCtorEq, Nat.reduceEqDiff, Nat.reduceAdd, Nat.reduceMul, Int.reduceNeg, Int.reduceAdd, Int.reduceSub, Int.reduceMul, Int.reduceLT, Int.reduceLE, Int.reduceEq, Int.reduceDiv, Int.reduceMod, Int.reduceToNat, Int.toNat_zero, Int.toNat_one, Nat.reduceLeDiff, Nat.reduceLT, ite_not, not_true, not_false_eq_true, r9] <;> omega) | omega))) | (with_reducible apply hs_t; (case h => (first | (simp (disch := (first | exact hz _ _ | exact hv _ | exact hL | assumption | (simp (disch := decide) only [zup_ne]; exact hL) | (simp only [zR]; omega) | omega)) only [zLit, zI_div, hI_fs, hI_us, zI_add, zI_sub, zI_mul, zI_neg, zI_lt, zI_eq, zI_ite, xbd_s, zI_nat, zld, zst, zbd, zB_0, zB_1, lenX_s, zup_at, xgd, cond_true, cond_false, and_self, and_true, true_and, false_and, and_false, or_self, or_false, false_or, if_true, if_false, ite_true, ite_false, reduceIte, reduceCtorEq, Nat.reduceEqDiff, Nat.reduceAdd, Nat.reduceMul, Int.reduceNeg, Int.reduceAdd, Int.reduceSub, Int.reduceMul, Int.reduceLT, Int.reduceLE, Int.reduceEq, Int.reduceDiv, Int.reduceMod, Int.reduceToNat, Int.toNat_zero, Int.toNat_one, Nat.reduceLeDiff, Nat.reduceLT, ite_not, not_true, not_false_eq_true, r9] <;> omega) | omega))) | (with_reducible apply hs_b; (case h => (simp (disch := (first | exact hz _ _ | exact hv _ | exact hL | assumption | (simp (disch := decide) only [zup_ne]; exact hL) | (simp only [zR]; omega) | omega)) only [zLit, zI_div, hI_fs, hI_us, zI_add, zI_sub, zI_mul, zI_neg, zI_lt, zI_eq, zI_ite, xbd_s, zI_nat, zld, zst, zbd, zB_0, zB_1, lenX_s, zup_at, xgd, cond_true, cond_false, and_self, and_true, true_and, false_and, and_false, or_self, or_false, false_or, if_true, if_false, ite_true, ite_false, reduceIte, reduceCtorEq, Nat.reduceEqDiff, Nat.reduceAdd, Nat.reduceMul, Int.reduceNeg, Int.reduceAdd, Int.reduceSub, Int.reduceMul, Int.reduceLT, Int.reduceLE, Int.reduceEq, Int.reduceDiv, Int.reduceMod, Int.reduceToNat, Int.toNat_zero, Int.toNat_one, Nat.reduceLeDiff, Nat.reduceLT, ite_not, not_true, not_false_eq_true, r9, c_rHas]; rfl)); try dsimp only) | (with_reducible apply hs_c <;> intro q9 <;> (try simp (disch := (first | exact hz _ _ | exact hv _ | exact hL | assumption | (simp (disch := decide) only [zup_ne]; exact hL) | (simp only [zR]; omega) | omega)) only [zLit, zI_div, hI_fs, hI_us, zI_add, zI_sub, zI_mul, zI_neg, zI_lt, zI_eq, zI_ite, xbd_s, zI_nat, zld, zst, zbd, zB_0, zB_1, lenX_s, zup_at, xgd, cond_true, cond_false, and_self, and_true, true_and, false_and, and_false, or_self, or_false, false_or, if_true, if_false, ite_true, ite_false, reduceIte, reduceCtorEq, Nat.reduceEqDiff, Nat.reduceAdd, Nat.reduceMul, Int.reduceNeg, Int.reduceAdd, Int.reduceSub, Int.reduceMul, Int.reduceLT, Int.reduceLE, Int.reduceEq, Int.reduceDiv, Int.reduceMod, Int.reduceToNat, Int.toNat_zero, Int.toNat_one, Nat.reduceLeDiff, Nat.reduceLT, ite_not, not_true, not_false_eq_true, r9] at q9)))
      all_goals simp only [w, b, if_true, if_false, reduceIte, Int.reduceEq, Int.reduceNeg, zLit, zI_neg]
  · rw [a] at h0
    rw [e] at h2
    simp only [zLit, h0, h1, h2, xbd_s]
    repeat' (first | (with_reducible apply hs_f; (case h => (first | (simp (disch := (first | exact hz _ _ | exact hv _ | exact hL | assumption | (simp (disch := decide) only [zup_ne]; exact hL) | (simp only [zR]; omega) | omega)) only [zLit, zI_div, hI_fs, hI_us, zI_add, zI_sub, zI_mul, zI_neg, zI_lt, zI_eq, zI_ite, xbd_s, zI_nat, zld, zst, zbd, zB_0, zB_1, lenX_s, zup_at, xgd, cond_true, cond_false, and_self, and_true, true_and, false_and, and_false, or_self, or_false, false_or, if_true, if_false, ite_true, ite_false, reduceIte, reduceCtorEq, Nat.reduceEqDiff, Nat.reduceAdd, Nat.reduceMul, Int.reduceNeg, Int.reduceAdd, Int.reduceSub, Int.reduceMul, Int.reduceLT, Int.reduceLE, Int.reduceEq, Int.reduceDiv, Int.reduceMod, Int.reduceToNat, Int.toNat_zero, Int.toNat_one, Nat.reduceLeDiff, Nat.reduceLT, ite_not, not_true, not_false_eq_true] <;> omega) | omega))) | (with_reducible apply hs_t; (case h => (first | (simp (disch := (first | exact hz _ _ | exact hv _ | exact hL | assumption | (simp (disch := decide) only [zup_ne]; exact hL) | (simp only [zR]; omega) | omega)) only [zLit, zI_div, hI_fs, hI_us, zI_add, zI_sub, zI_mul, zI_neg, zI_lt, zI_eq, zI_ite, xbd_s, zI_nat, zld, zst, zbd, zB_0, zB_1, lenX_s, zup_at, xgd, cond_true, cond_false, and_self, and_true, true_and, false_and, and_false, or_self, or_false, false_or, if_true, if_false, ite_true, ite_false, reduceIte, reduceCtorEq, Nat.reduceEqDiff, Nat.reduceAdd, Nat.reduceMul, Int.reduceNeg, Int.reduceAdd, Int.reduceSub, Int.reduceMul, Int.reduceLT, Int.reduceLE, Int.reduceEq, Int.reduceDiv, Int.reduceMod, Int.reduceToNat, Int.toNat_zero, Int.toNat_one, Nat.reduceLeDiff, Nat.reduceLT, ite_not, not_true, not_false_eq_true] <;> omega) | omega))) | (with_reducible apply hs_b; (case h => (simp (disch := (first | exact hz _ _ | exact hv _ | exact hL | assumption | (simp (disch := decide) only [zup_ne]; exact hL) | (simp only [zR]; omega) | omega)) only [zLit, zI_div, hI_fs, hI_us, zI_add, zI_sub, zI_mul, zI_neg, zI_lt, zI_eq, zI_ite, xbd_s, zI_nat, zld, zst, zbd, zB_0, zB_1, lenX_s, zup_at, xgd, cond_true, cond_false, and_self, and_true, true_and, false_and, and_false, or_self, or_false, false_or, if_true, if_false, ite_true, ite_false, reduceIte, reduceCtorEq, Nat.reduceEqDiff, Nat.reduceAdd, Nat.reduceMul, Int.reduceNeg, Int.reduceAdd, Int.reduceSub, Int.reduceMul, Int.reduceLT, Int.reduceLE, Int.reduceEq, Int.reduceDiv, Int.reduceMod, Int.reduceToNat, Int.toNat_zero, Int.toNat_one, Nat.reduceLeDiff, Nat.reduceLT, ite_not, not_true, not_false_eq_true]; rfl)); try dsimp only) | (with_reducible apply hs_c <;> intro q9 <;> (try simp (disch := (first | exact hz _ _ | exact hv _ | exact hL | assumption | (simp (disch := decide) only [zup_ne]; exact hL) | (simp only [zR]; omega) | omega)) only [zLit, zI_div, hI_fs, hI_us, zI_add, zI_sub, zI_mul, zI_neg, zI_lt, zI_eq, zI_ite, xbd_s, zI_nat, zld, zst, zbd, zB_0, zB_1, lenX_s, zup_at, xgd, cond_true, cond_false, and_self, and_true, true_and, false_and, and_false, or_self, or_false, false_or, if_true, if_false, ite_true, ite_false, reduceIte, reduceCtorEq, Nat.reduceEqDiff, Nat.reduceAdd, Nat.reduceMul, Int.reduceNeg, Int.reduceAdd, Int.reduceSub, Int.reduceMul, Int.reduceLT, Int.reduceLE, Int.reduceEq, Int.reduceDiv, Int.reduceMod, Int.reduceToNat, Int.toNat_zero, Int.toNat_one, Nat.reduceLeDiff, Nat.reduceLT, ite_not, not_true, not_false_eq_true] at q9)))
    all_goals simp only [b, if_true, reduceIte, zI_add]
def rkB (b : Int) : Nat := if b = 10 ∨ b = 12 ∨ b = 70 ∨ b = 72 then 1 else if b = 30 ∨ b = 50 then 2 else if b = 60 then 3 else if b = 11 ∨ b = 71 then 4 else if b = 20 ∨ b = 40 then 5 else if b = 61 then 6 else if b = 13 ∨ b = 73 then 7 else 8
theorem rkB_1 (b : Int) : 1 ≤ rkB b := by unfold rkB; (repeat' split) <;> omega
theorem rkL : ∀ f : Fin 7, rkB (askAt askB f.val 0) ≤ 3 ∧ rkB (askAt askB f.val 1) ≤ 6 ∧ rkB (askAt askB f.val 2) ≤ 2 := by decide +kernel
theorem rk_F {F : Int} (hF : 0 ≤ F ∧ F < 7) : rkB (askAt askB F.toNat 0) ≤ 3 ∧ rkB (askAt askB F.toNat 1) ≤ 6 ∧ rkB (askAt askB F.toNat 2) ≤ 2 := rkL ⟨F.toNat, by omega⟩
theorem sim_beg {F n a b : Int} (hb : zR b) {oc om oc' om' : xH → xO} (e1 : ∀ z, zRR z → (0 ≤ z 66 1 ∧ z 66 1 ≤ 30) → oc (hI z) = oc' (hI (spBeg z b))) (e2 : ∀ y, zRR y → (0 ≤ y 100 40 ∧ y 100 40 ≤ 30) → om (hI y) = om' (hI (spBegM y b))) (h : sim F n a oc' om') : sim F n a oc om := by
  intro z y t
  obtain ⟨t1, f1, f2, f3⟩ := Tr_beg t hb
  obtain ⟨r, z2, y2, a1, a2, t2, g1, g2, g3⟩ := h _ _ t1
  obtain ⟨⟨hz, hy⟩, -, -, -, d, e, -⟩ := t
  refine ⟨r, z2, y2, ?_, ?_, t2, fr_tr f1 g1 rfl, fr_tr f2 g2 rfl, ff_tr f3 g3 rfl⟩
  · rw [e1 z hz (by rw [d]; exact e)]; exact a1
  · rw [e2 y hy e]; exact a2
theorem sim_id {F n a : Int} {oc om : xH → xO} (h : sim F n a oc om) : sim F n a (fun h => xbd (oc h) fun r h => some (r, h)) (fun h => xbd (om h) fun r h => some (r, h)) :=
  sim_bd h (fun r z y t => ⟨r, z, y, rfl, rfl, t, fr_rf _ _, fr_rf _ _, ff_rf _ _⟩)
/-- a last step that reads n, a -/
theorem sim_fn {F n a : Int} {gc gm : xH → Int32} (g : Int32) (hc : ∀ z y, Tr F n a z y → gc (hI z) = g) (hm : ∀ z y, Tr F n a z y → gm (hI y) = g) : sim F n a (fun h => some (gc h, h)) (fun h => some (gm h, h)) := by
  intro z y t
  exact ⟨g, z, y, by show some (gc (hI z), hI z) = _; rw [hc z y t], by show some (gm (hI y), hI y) = _; rw [hm z y t], t, fr_rf _ _, fr_rf _ _, ff_rf _ _⟩
theorem Tr_rd {F n a : Int} {z y : zH} (t : Tr F n a z y) : (hI z 66 2 = zI F ∧ hI y 100 41 = zI F) ∧ (hI z 66 3 = zI n ∧ hI y 100 42 = zI n) ∧ (hI z 66 4 = zI a ∧ hI y 100 43 = zI a) := by
  obtain ⟨-, ⟨a1, a2⟩, ⟨b1, b2⟩, ⟨c1, c2⟩, -⟩ := t
  refine ⟨⟨?_, ?_⟩, ⟨?_, ?_⟩, ?_, ?_⟩
  · rw [hI_n, show ((2 : Nat) : Int) = 2 from rfl, a1]
  · rw [hI_n, show ((41 : Nat) : Int) = 41 from rfl, a2]
  · rw [hI_n, show ((3 : Nat) : Int) = 3 from rfl, b1]
  · rw [hI_n, show ((42 : Nat) : Int) = 42 from rfl, b2]
  · rw [hI_n, show ((4 : Nat) : Int) = 4 from rfl, c1]
  · rw [hI_n, show ((43 : Nat) : Int) = 43 from rfl, c2]
def simA (F n a : Int) (k : Nat) : Prop := ∀ (f q : Int) (x : Int32) (dp : Int) (D E : Nat), (0 ≤ f ∧ f < 7) → (0 ≤ q ∧ q < 4) → rkB (askAt askB f.toNat q.toNat) ≤ k → 0 ≤ dp → dp + k ≤ 40 → 4 * k ≤ D → 4 * k ≤ E → sim F n a (fun h => cM (D + 2) 4 [xR 16 66, xI (zI f), xI (zI q), xI x, xI (zI dp)] h) (fun h => cM (E + 2) 255 [xR 28 100, xI (zI f), xI (zI q), xI x] h)
theorem sim_ans {F n a : Int} {k : Nat} (hF : 0 ≤ F ∧ F < 7) (A : simA F n a k) {q : Int} (hq : 0 ≤ q ∧ q < 4) (hr : rkB (askAt askB F.toNat q.toNat) ≤ k) (x : Int32) {dp : Int} (h0 : 0 ≤ dp) (h1 : dp + k ≤ 40) {D E : Nat} (hD : 4 * k ≤ D) (hE : 4 * k ≤ E) : sim F n a (fun h => cM (D + 2) 4 [xR 16 66, xI (h 66 2), xI (zI q), xI x, xI (zI dp)] h) (fun h => cM (E + 3) 254 [xR 28 100, xI (zI q), xI x] h) := by
  have B := A F q x dp D E hF hq hr h0 h1 hD hE
  intro z y t
  obtain ⟨r, z2, y2, a1, a2, a3⟩ := B z y t
  refine ⟨r, z2, y2, ?_, ?_, a3⟩
  · show cM (D + 2) 4 [xR 16 66, xI (hI z 66 2), xI (zI q), xI x, xI (zI dp)] (hI z) = _
    rw [(Tr_rd t).1.1]
    exact a1
  · show cM (E + 3) 254 [xR 28 100, xI (zI q), xI x] (hI y) = _
    have a2 : cM (E + 2) 255 [xR 28 100, xI (zI F), xI (zI q), xI x] (hI y) = some (r, hI y2) := a2
    rw [e_X12_answer, (Tr_rd t).1.2, a2, xbd_n]
theorem sim_quo {F n a : Int} (ha : 0 ≤ a ∧ a ≤ 999) (hn : 0 ≤ n ∧ n ≤ 999) (x dp : Int32) (D E : Nat) : sim F n a (rB12 (D + 1) x dp) (mB12 E x) := by
  intro z y t
  have rd := Tr_rd t
  have t0 := t
  obtain ⟨⟨hz, hy⟩, ⟨a1, a2⟩, ⟨b1, b2⟩, ⟨c1, c2⟩, d, e, f, g, h⟩ := t
  have h0r : zR 0 := zR_s (by omega)
  have har : zR a := zR_s (by omega)
  have hnr : zR n := zR_s (by omega)
  have hsr : zR (a - n) := zR_s (by omega)
  unfold rB12 mB12
  rw [rd.2.2.1, rd.2.1.1, rd.2.2.2, rd.2.1.2, e_X0_quotient]
  simp only [zLit, zI_sub]
  by_cases q : a = n
  · refine ⟨zI 0, zup z 66 5 1, zup y 100 44 1, ?_, ?_, ⟨⟨zRR_up hz _ _ (zR_s (by omega)), zRR_up hy _ _ (zR_s (by omega))⟩, ⟨?_, ?_⟩, ⟨?_, ?_⟩, ⟨?_, ?_⟩, ?_, ?_, ?_, ?_, ?_⟩, fr_up (fr_rf _ _) _ _ rfl, fr_up (fr_rf _ _) _ _ rfl, ff_up (ff_rf _ _) _ rfl⟩
    · rw [if_pos (by rw [zI_eq hsr h0r]; omega), xbd_n]
      simp only [hI_us]
    · rw [if_pos (by rw [q])]
      simp only [hI_us]
    all_goals simp only [zup_at, and_self, and_true, true_and, and_false, false_and, if_true, if_false, reduceIte, Int.reduceEq, reduceCtorEq, Nat.reduceEqDiff]
    all_goals first | assumption | exact Or.inr q
  · have hz5 : y 100 44 = 0 := by rcases h with w | w; omega; exact absurd w.2 q
    have e0 : hI (zup y 100 44 0) = hI y := by
      congr 1
      funext o k
      rw [zup_at]
      split
      · rename_i w; rw [w.1, w.2, hz5]
      · rfl
    refine ⟨x / zI (a - n), z, y, ?_, ?_, t0, fr_rf _ _, fr_rf _ _, ff_rf _ _⟩
    · rw [if_neg (by rw [zI_eq hsr h0r]; omega), if_neg (by rw [zI_eq hsr h0r]; omega), xbd_n]
    · rw [if_neg (by rw [zI_eq har hnr]; exact q), if_neg (by rw [zI_eq hsr h0r]; omega)]
      simp only [hI_us, e0]
theorem simR10 {F n a : Int} {k : Nat} (hF : 0 ≤ F ∧ F < 7) (ha : 0 ≤ a ∧ a ≤ 999) (hn : 0 ≤ n ∧ n ≤ 999) (A : simA F n a k) (hk : rkB 10 ≤ k + 1) (x : Int32) {dp : Int} (h0 : 0 ≤ dp) (h1 : dp + k ≤ 40) {D E : Nat} (hD : 4 * k ≤ D) (hE : 4 * k ≤ E) : sim F n a (rB10 (D + 2) x (zI dp)) (mB10 (E + 3) x) := by
  exact sim_fn (x + zI a) (fun z y t => by rw [(Tr_rd t).2.2.1]) (fun z y t => by rw [(Tr_rd t).2.2.2])
theorem simR70 {F n a : Int} {k : Nat} (hF : 0 ≤ F ∧ F < 7) (ha : 0 ≤ a ∧ a ≤ 999) (hn : 0 ≤ n ∧ n ≤ 999) (A : simA F n a k) (hk : rkB 70 ≤ k + 1) (x : Int32) {dp : Int} (h0 : 0 ≤ dp) (h1 : dp + k ≤ 40) {D E : Nat} (hD : 4 * k ≤ D) (hE : 4 * k ≤ E) : sim F n a (rB70 (D + 2) x (zI dp)) (mB70 (E + 3) x) := by
  exact sim_fn (zI a - x) (fun z y t => by rw [(Tr_rd t).2.2.1]) (fun z y t => by rw [(Tr_rd t).2.2.2])
theorem simR72 {F n a : Int} {k : Nat} (hF : 0 ≤ F ∧ F < 7) (ha : 0 ≤ a ∧ a ≤ 999) (hn : 0 ≤ n ∧ n ≤ 999) (A : simA F n a k) (hk : rkB 72 ≤ k + 1) (x : Int32) {dp : Int} (h0 : 0 ≤ dp) (h1 : dp + k ≤ 40) {D E : Nat} (hD : 4 * k ≤ D) (hE : 4 * k ≤ E) : sim F n a (rB72 (D + 2) x (zI dp)) (mB72 (E + 3) x) := by
  exact sim_fn (x &&& zI a) (fun z y t => by rw [(Tr_rd t).2.2.1]) (fun z y t => by rw [(Tr_rd t).2.2.2])
theorem simR12 {F n a : Int} {k : Nat} (hF : 0 ≤ F ∧ F < 7) (ha : 0 ≤ a ∧ a ≤ 999) (hn : 0 ≤ n ∧ n ≤ 999) (A : simA F n a k) (hk : rkB 12 ≤ k + 1) (x : Int32) {dp : Int} (h0 : 0 ≤ dp) (h1 : dp + k ≤ 40) {D E : Nat} (hD : 4 * k ≤ D) (hE : 4 * k ≤ E) : sim F n a (rB12 (D + 2) x (zI dp)) (mB12 (E + 3) x) := by
  exact sim_quo ha hn x (zI dp) (D + 1) (E + 3)
theorem simR11 {F n a : Int} {k : Nat} (hF : 0 ≤ F ∧ F < 7) (ha : 0 ≤ a ∧ a ≤ 999) (hn : 0 ≤ n ∧ n ≤ 999) (A : simA F n a k) (hk : rkB 11 ≤ k + 1) (x : Int32) {dp : Int} (h0 : 0 ≤ dp) (h1 : dp + k ≤ 40) {D E : Nat} (hD : 4 * k ≤ D) (hE : 4 * k ≤ E) : sim F n a (rB11 (D + 2) x (zI dp)) (mB11 (E + 3) x) := by
  have hk : 4 ≤ k + 1 := hk
  have rf := rk_F hF
  exact sim_bd (sim_ans hF A (q := 0) (by omega) (by have := rf.1; simp only [show (0 : Int).toNat = 0 from rfl]; omega) x h0 h1 hD hE) (fun r => sim_fn (r * zI 2) (fun z y t => rfl) (fun z y t => rfl))
theorem simR13 {F n a : Int} {k : Nat} (hF : 0 ≤ F ∧ F < 7) (ha : 0 ≤ a ∧ a ≤ 999) (hn : 0 ≤ n ∧ n ≤ 999) (A : simA F n a k) (hk : rkB 13 ≤ k + 1) (x : Int32) {dp : Int} (h0 : 0 ≤ dp) (h1 : dp + k ≤ 40) {D E : Nat} (hD : 4 * k ≤ D) (hE : 4 * k ≤ E) : sim F n a (rB13 (D + 2) x (zI dp)) (mB13 (E + 3) x) := by
  have hk : 7 ≤ k + 1 := hk
  have rf := rk_F hF
  exact sim_bd (sim_ans hF A (q := 1) (by omega) (by have := rf.2.1; simp only [show (1 : Int).toNat = 1 from rfl]; omega) x h0 h1 hD hE) (fun r => sim_fn (r ^^^ zI n) (fun z y t => by rw [(Tr_rd t).2.1.1]) (fun z y t => by rw [(Tr_rd t).2.1.2]))
theorem simR20 {F n a : Int} {k : Nat} (hF : 0 ≤ F ∧ F < 7) (ha : 0 ≤ a ∧ a ≤ 999) (hn : 0 ≤ n ∧ n ≤ 999) (A : simA F n a k) (hk : rkB 20 ≤ k + 1) (x : Int32) {dp : Int} (h0 : 0 ≤ dp) (h1 : dp + k ≤ 40) {D E : Nat} (hD : 4 * k ≤ D) (hE : 4 * k ≤ E) : sim F n a (rB20 (D + 2) x (zI dp)) (mB20 (E + 3) x) := by
  have hk : 5 ≤ k + 1 := hk
  exact sim_bd (A 0 1 (x) dp D (E + 1) (by omega) (by omega) (by have : rkB (askAt askB (0 : Int).toNat (1 : Int).toNat) = 4 := (by decide); omega) h0 h1 hD (by omega)) (fun r => sim_fn (r - zI 3) (fun z y t => rfl) (fun z y t => rfl))
theorem simR30 {F n a : Int} {k : Nat} (hF : 0 ≤ F ∧ F < 7) (ha : 0 ≤ a ∧ a ≤ 999) (hn : 0 ≤ n ∧ n ≤ 999) (A : simA F n a k) (hk : rkB 30 ≤ k + 1) (x : Int32) {dp : Int} (h0 : 0 ≤ dp) (h1 : dp + k ≤ 40) {D E : Nat} (hD : 4 * k ≤ D) (hE : 4 * k ≤ E) : sim F n a (rB30 (D + 2) x (zI dp)) (mB30 (E + 3) x) := by
  have hk : 2 ≤ k + 1 := hk
  exact sim_bd (A 1 0 (x) dp D (E + 1) (by omega) (by omega) (by have : rkB (askAt askB (1 : Int).toNat (0 : Int).toNat) = 1 := (by decide); omega) h0 h1 hD (by omega)) (fun r => sim_fn (r * zI 5) (fun z y t => rfl) (fun z y t => rfl))
theorem simR40 {F n a : Int} {k : Nat} (hF : 0 ≤ F ∧ F < 7) (ha : 0 ≤ a ∧ a ≤ 999) (hn : 0 ≤ n ∧ n ≤ 999) (A : simA F n a k) (hk : rkB 40 ≤ k + 1) (x : Int32) {dp : Int} (h0 : 0 ≤ dp) (h1 : dp + k ≤ 40) {D E : Nat} (hD : 4 * k ≤ D) (hE : 4 * k ≤ E) : sim F n a (rB40 (D + 2) x (zI dp)) (mB40 (E + 3) x) := by
  have hk : 5 ≤ k + 1 := hk
  exact sim_bd (A 0 1 (x) dp D (E + 1) (by omega) (by omega) (by have : rkB (askAt askB (0 : Int).toNat (1 : Int).toNat) = 4 := (by decide); omega) h0 h1 hD (by omega)) (fun r => sim_fn (zI 0 - r) (fun z y t => rfl) (fun z y t => rfl))
theorem simR50 {F n a : Int} {k : Nat} (hF : 0 ≤ F ∧ F < 7) (ha : 0 ≤ a ∧ a ≤ 999) (hn : 0 ≤ n ∧ n ≤ 999) (A : simA F n a k) (hk : rkB 50 ≤ k + 1) (x : Int32) {dp : Int} (h0 : 0 ≤ dp) (h1 : dp + k ≤ 40) {D E : Nat} (hD : 4 * k ≤ D) (hE : 4 * k ≤ E) : sim F n a (rB50 (D + 2) x (zI dp)) (mB50 (E + 3) x) := by
  have hk : 2 ≤ k + 1 := hk
  exact sim_bd (A 0 2 (x + zI 1) dp D (E + 1) (by omega) (by omega) (by have : rkB (askAt askB (0 : Int).toNat (2 : Int).toNat) = 1 := (by decide); omega) h0 h1 hD (by omega)) (fun r => sim_fn (r) (fun z y t => rfl) (fun z y t => rfl))
theorem simR60 {F n a : Int} {k : Nat} (hF : 0 ≤ F ∧ F < 7) (ha : 0 ≤ a ∧ a ≤ 999) (hn : 0 ≤ n ∧ n ≤ 999) (A : simA F n a k) (hk : rkB 60 ≤ k + 1) (x : Int32) {dp : Int} (h0 : 0 ≤ dp) (h1 : dp + k ≤ 40) {D E : Nat} (hD : 4 * k ≤ D) (hE : 4 * k ≤ E) : sim F n a (rB60 (D + 2) x (zI dp)) (mB60 (E + 3) x) := by
  have hk : 3 ≤ k + 1 := hk
  exact sim_bd (A 2 0 (x) dp D (E + 1) (by omega) (by omega) (by have : rkB (askAt askB (2 : Int).toNat (0 : Int).toNat) = 2 := (by decide); omega) h0 h1 hD (by omega)) (fun r => sim_fn (r ^^^ zI a) (fun z y t => by rw [(Tr_rd t).2.2.1]) (fun z y t => by rw [(Tr_rd t).2.2.2]))
theorem simR71 {F n a : Int} {k : Nat} (hF : 0 ≤ F ∧ F < 7) (ha : 0 ≤ a ∧ a ≤ 999) (hn : 0 ≤ n ∧ n ≤ 999) (A : simA F n a k) (hk : rkB 71 ≤ k + 1) (x : Int32) {dp : Int} (h0 : 0 ≤ dp) (h1 : dp + k ≤ 40) {D E : Nat} (hD : 4 * k ≤ D) (hE : 4 * k ≤ E) : sim F n a (rB71 (D + 2) x (zI dp)) (mB71 (E + 3) x) := by
  have hk : 4 ≤ k + 1 := hk
  have rf := rk_F hF
  exact sim_bd (sim_ans hF A (q := 0) (by omega) (by have := rf.1; simp only [show (0 : Int).toNat = 0 from rfl]; omega) x h0 h1 hD hE) (fun r => sim_fn (r + zI n) (fun z y t => by rw [(Tr_rd t).2.1.1]) (fun z y t => by rw [(Tr_rd t).2.1.2]))
theorem simR73 {F n a : Int} {k : Nat} (hF : 0 ≤ F ∧ F < 7) (ha : 0 ≤ a ∧ a ≤ 999) (hn : 0 ≤ n ∧ n ≤ 999) (A : simA F n a k) (hk : rkB 73 ≤ k + 1) (x : Int32) {dp : Int} (h0 : 0 ≤ dp) (h1 : dp + k ≤ 40) {D E : Nat} (hD : 4 * k ≤ D) (hE : 4 * k ≤ E) : sim F n a (rB73 (D + 2) x (zI dp)) (mB73 (E + 3) x) := by
  have hk : 7 ≤ k + 1 := hk
  have rf := rk_F hF
  exact sim_bd (sim_ans hF A (q := 1) (by omega) (by have := rf.2.1; simp only [show (1 : Int).toNat = 1 from rfl]; omega) x h0 h1 hD hE) (fun r => sim_bd (sim_ans hF A (q := 2) (by omega) (by have := rf.2.2; simp only [show (2 : Int).toNat = 2 from rfl]; omega) x h0 h1 hD hE) (fun s => sim_fn (r - s) (fun z y t => rfl) (fun z y t => rfl)))
theorem simR31 {F n a : Int} {k : Nat} (hF : 0 ≤ F ∧ F < 7) (ha : 0 ≤ a ∧ a ≤ 999) (hn : 0 ≤ n ∧ n ≤ 999) (A : simA F n a k) (hk : rkB 31 ≤ k + 1) (x : Int32) {dp : Int} (h0 : 0 ≤ dp) (h1 : dp + k ≤ 40) {D E : Nat} (hD : 4 * k ≤ D) (hE : 4 * k ≤ E) : sim F n a (rB31 (D + 2) x (zI dp)) (mB31 (E + 3) x) := by
  have hk : 8 ≤ k + 1 := hk
  have rf := rk_F hF
  refine sim_bd (A 1 3 (x) dp D (E + 1) (by omega) (by omega) (by have : rkB (askAt askB (1 : Int).toNat (3 : Int).toNat) = 7 := (by decide); omega) h0 h1 hD (by omega)) (fun r => sim_bd ?_ (fun s => sim_fn (r + s) (fun z y t => rfl) (fun z y t => rfl)))
  refine sim_c (sim_ans hF A (q := 2) (by omega) (by have := rf.2.2; simp only [show (2 : Int).toNat = 2 from rfl]; omega) (zI n + zI 2) h0 h1 hD hE) (fun z y t => ?_) (fun z y t => ?_)
  · show cM (D + 2) 4 [xR 16 66, xI (hI z 66 2), xI (zI 2), xI (hI z 66 3 + zI 2), xI (zI dp)] (hI z) = cM (D + 2) 4 [xR 16 66, xI (hI z 66 2), xI (zI 2), xI (zI n + zI 2), xI (zI dp)] (hI z)
    rw [(Tr_rd t).2.1.1]
  · show cM (E + 3) 254 [xR 28 100, xI (zI 2), xI (hI y 100 42 + zI 2)] (hI y) = cM (E + 3) 254 [xR 28 100, xI (zI 2), xI (zI n + zI 2)] (hI y)
    rw [(Tr_rd t).2.1.2]
theorem simR61 {F n a : Int} {k : Nat} (hF : 0 ≤ F ∧ F < 7) (ha : 0 ≤ a ∧ a ≤ 999) (hn : 0 ≤ n ∧ n ≤ 999) (A : simA F n a k) (hk : rkB 61 ≤ k + 1) (x : Int32) {dp : Int} (h0 : 0 ≤ dp) (h1 : dp + k ≤ 40) {D E : Nat} (hD : 4 * k ≤ D) (hE : 4 * k ≤ E) : sim F n a (rB61 (D + 2) x (zI dp)) (mB61 (E + 3) x) := by
  have hk : 6 ≤ k + 1 := hk
  refine sim_bd (A 2 1 (x) dp D (E + 1) (by omega) (by omega) (by have : rkB (askAt askB (2 : Int).toNat (1 : Int).toNat) = 5 := (by decide); omega) h0 h1 hD (by omega)) (fun r => sim_bd ?_ (fun s => sim_fn (r + s) (fun z y t => rfl) (fun z y t => rfl)))
  refine sim_c (A 2 0 (zI n) dp D (E + 1) (by omega) (by omega) (by have : rkB (askAt askB (2 : Int).toNat (0 : Int).toNat) = 2 := (by decide); omega) h0 h1 hD (by omega)) (fun z y t => ?_) (fun z y t => ?_)
  · show cM (D + 2) 4 [xR 16 66, xI (zI 2), xI (zI 0), xI (hI z 66 3), xI (zI dp)] (hI z) = cM (D + 2) 4 [xR 16 66, xI (zI 2), xI (zI 0), xI (zI n), xI (zI dp)] (hI z)
    rw [(Tr_rd t).2.1.1]
  · show cM (E + 3) 255 [xR 28 100, xI (zI 2), xI (zI 0), xI (hI y 100 42)] (hI y) = cM (E + 3) 255 [xR 28 100, xI (zI 2), xI (zI 0), xI (zI n)] (hI y)
    rw [(Tr_rd t).2.1.2]
theorem simA_all {F n a : Int} (hF : 0 ≤ F ∧ F < 7) (ha : 0 ≤ a ∧ a ≤ 999) (hn : 0 ≤ n ∧ n ≤ 999) : ∀ k, k ≤ 8 → simA F n a k := by
  intro k
  induction k with
  | zero =>
    intro _ f q x dp D E hf hq hr
    have := rkB_1 (askAt askB f.toNat q.toNat)
    omega
  | succ k ih =>
    intro hk8 f q x dp D E hf hq hr h0 h1 hD hE
    have A := ih (by omega)
    obtain ⟨D, rfl⟩ : ∃ j, D = j + 2 := ⟨D - 2, by omega⟩
    obtain ⟨E, rfl⟩ : ∃ j, E = j + 3 := ⟨E - 3, by omega⟩
    refine sim_c (oc' := fun h => xbd (cM (D + 3) 5 [xR 16 66, xI (zI (askAt askB f.toNat q.toNat)), xI x, xI (zI (dp + 1))] h) fun r h => some (r, h)) (om' := fun h => xbd (cM (E + 4) 256 [xR 28 100, xI (zI (askAt askF f.toNat q.toNat)), xI (zI q), xI x] h) fun r h => some (r, h)) ?_ (fun z y t => c_asked (D + 2) hf hq ⟨h0, by omega⟩ x (hI z)) (fun z y t => m_from (E + 3) hf hq x (hI y))
    refine sim_id ?_
    have h0' : 0 ≤ dp + 1 := by omega
    have h1' : dp + 1 + k ≤ 40 := by omega
    rcases (show f = 0 ∨ f = 1 ∨ f = 2 ∨ f = 3 ∨ f = 4 ∨ f = 5 ∨ f = 6 by omega) with e | e | e | e | e | e | e <;> subst e <;> rcases (show q = 0 ∨ q = 1 ∨ q = 2 ∨ q = 3 by omega) with e | e | e | e <;> subst e
    · have eb : askAt askB (0 : Int).toNat (0 : Int).toNat = 10 := by decide
      have ef : askAt askF (0 : Int).toNat (0 : Int).toNat = 0 := by decide
      rw [eb] at hr ⊢
      rw [ef]
      exact sim_beg (b := 10) (zR_s (by omega)) (fun z hz hc => c_run10 (D + 2) hz hc x (zI (dp + 1))) (fun y hy hc => m_body10 (E + 2) hy hc x) (simR10 hF ha hn A hr x h0' h1' (by omega) (by omega))
    · have eb : askAt askB (0 : Int).toNat (1 : Int).toNat = 11 := by decide
      have ef : askAt askF (0 : Int).toNat (1 : Int).toNat = 0 := by decide
      rw [eb] at hr ⊢
      rw [ef]
      exact sim_beg (b := 11) (zR_s (by omega)) (fun z hz hc => c_run11 (D + 2) hz hc x (zI (dp + 1))) (fun y hy hc => m_body11 (E + 2) hy hc x) (simR11 hF ha hn A hr x h0' h1' (by omega) (by omega))
    · have eb : askAt askB (0 : Int).toNat (2 : Int).toNat = 12 := by decide
      have ef : askAt askF (0 : Int).toNat (2 : Int).toNat = 0 := by decide
      rw [eb] at hr ⊢
      rw [ef]
      exact sim_beg (b := 12) (zR_s (by omega)) (fun z hz hc => c_run12 (D + 2) hz hc x (zI (dp + 1))) (fun y hy hc => m_body12 (E + 2) hy hc x) (simR12 hF ha hn A hr x h0' h1' (by omega) (by omega))
    · have eb : askAt askB (0 : Int).toNat (3 : Int).toNat = 13 := by decide
      have ef : askAt askF (0 : Int).toNat (3 : Int).toNat = 0 := by decide
      rw [eb] at hr ⊢
      rw [ef]
      exact sim_beg (b := 13) (zR_s (by omega)) (fun z hz hc => c_run13 (D + 2) hz hc x (zI (dp + 1))) (fun y hy hc => m_body13 (E + 2) hy hc x) (simR13 hF ha hn A hr x h0' h1' (by omega) (by omega))
    · have eb : askAt askB (1 : Int).toNat (0 : Int).toNat = 10 := by decide
      have ef : askAt askF (1 : Int).toNat (0 : Int).toNat = 0 := by decide
      rw [eb] at hr ⊢
      rw [ef]
      exact sim_beg (b := 10) (zR_s (by omega)) (fun z hz hc => c_run10 (D + 2) hz hc x (zI (dp + 1))) (fun y hy hc => m_body10 (E + 2) hy hc x) (simR10 hF ha hn A hr x h0' h1' (by omega) (by omega))
    · have eb : askAt askB (1 : Int).toNat (1 : Int).toNat = 20 := by decide
      have ef : askAt askF (1 : Int).toNat (1 : Int).toNat = 1 := by decide
      rw [eb] at hr ⊢
      rw [ef]
      exact sim_beg (b := 20) (zR_s (by omega)) (fun z hz hc => c_run20 (D + 2) hz hc x (zI (dp + 1))) (fun y hy hc => m_body20 (E + 2) hy hc x) (simR20 hF ha hn A hr x h0' h1' (by omega) (by omega))
    · have eb : askAt askB (1 : Int).toNat (2 : Int).toNat = 12 := by decide
      have ef : askAt askF (1 : Int).toNat (2 : Int).toNat = 0 := by decide
      rw [eb] at hr ⊢
      rw [ef]
      exact sim_beg (b := 12) (zR_s (by omega)) (fun z hz hc => c_run12 (D + 2) hz hc x (zI (dp + 1))) (fun y hy hc => m_body12 (E + 2) hy hc x) (simR12 hF ha hn A hr x h0' h1' (by omega) (by omega))
    · have eb : askAt askB (1 : Int).toNat (3 : Int).toNat = 13 := by decide
      have ef : askAt askF (1 : Int).toNat (3 : Int).toNat = 0 := by decide
      rw [eb] at hr ⊢
      rw [ef]
      exact sim_beg (b := 13) (zR_s (by omega)) (fun z hz hc => c_run13 (D + 2) hz hc x (zI (dp + 1))) (fun y hy hc => m_body13 (E + 2) hy hc x) (simR13 hF ha hn A hr x h0' h1' (by omega) (by omega))
    · have eb : askAt askB (2 : Int).toNat (0 : Int).toNat = 30 := by decide
      have ef : askAt askF (2 : Int).toNat (0 : Int).toNat = 2 := by decide
      rw [eb] at hr ⊢
      rw [ef]
      exact sim_beg (b := 30) (zR_s (by omega)) (fun z hz hc => c_run30 (D + 2) hz hc x (zI (dp + 1))) (fun y hy hc => m_body30 (E + 2) hy hc x) (simR30 hF ha hn A hr x h0' h1' (by omega) (by omega))
    · have eb : askAt askB (2 : Int).toNat (1 : Int).toNat = 20 := by decide
      have ef : askAt askF (2 : Int).toNat (1 : Int).toNat = 1 := by decide
      rw [eb] at hr ⊢
      rw [ef]
      exact sim_beg (b := 20) (zR_s (by omega)) (fun z hz hc => c_run20 (D + 2) hz hc x (zI (dp + 1))) (fun y hy hc => m_body20 (E + 2) hy hc x) (simR20 hF ha hn A hr x h0' h1' (by omega) (by omega))
    · have eb : askAt askB (2 : Int).toNat (2 : Int).toNat = 12 := by decide
      have ef : askAt askF (2 : Int).toNat (2 : Int).toNat = 0 := by decide
      rw [eb] at hr ⊢
      rw [ef]
      exact sim_beg (b := 12) (zR_s (by omega)) (fun z hz hc => c_run12 (D + 2) hz hc x (zI (dp + 1))) (fun y hy hc => m_body12 (E + 2) hy hc x) (simR12 hF ha hn A hr x h0' h1' (by omega) (by omega))
    · have eb : askAt askB (2 : Int).toNat (3 : Int).toNat = 31 := by decide
      have ef : askAt askF (2 : Int).toNat (3 : Int).toNat = 2 := by decide
      rw [eb] at hr ⊢
      rw [ef]
      exact sim_beg (b := 31) (zR_s (by omega)) (fun z hz hc => c_run31 (D + 2) hz hc x (zI (dp + 1))) (fun y hy hc => m_body31 (E + 2) hy hc x) (simR31 hF ha hn A hr x h0' h1' (by omega) (by omega))
    · have eb : askAt askB (3 : Int).toNat (0 : Int).toNat = 10 := by decide
      have ef : askAt askF (3 : Int).toNat (0 : Int).toNat = 0 := by decide
      rw [eb] at hr ⊢
      rw [ef]
      exact sim_beg (b := 10) (zR_s (by omega)) (fun z hz hc => c_run10 (D + 2) hz hc x (zI (dp + 1))) (fun y hy hc => m_body10 (E + 2) hy hc x) (simR10 hF ha hn A hr x h0' h1' (by omega) (by omega))
    · have eb : askAt askB (3 : Int).toNat (1 : Int).toNat = 40 := by decide
      have ef : askAt askF (3 : Int).toNat (1 : Int).toNat = 3 := by decide
      rw [eb] at hr ⊢
      rw [ef]
      exact sim_beg (b := 40) (zR_s (by omega)) (fun z hz hc => c_run40 (D + 2) hz hc x (zI (dp + 1))) (fun y hy hc => m_body40 (E + 2) hy hc x) (simR40 hF ha hn A hr x h0' h1' (by omega) (by omega))
    · have eb : askAt askB (3 : Int).toNat (2 : Int).toNat = 12 := by decide
      have ef : askAt askF (3 : Int).toNat (2 : Int).toNat = 0 := by decide
      rw [eb] at hr ⊢
      rw [ef]
      exact sim_beg (b := 12) (zR_s (by omega)) (fun z hz hc => c_run12 (D + 2) hz hc x (zI (dp + 1))) (fun y hy hc => m_body12 (E + 2) hy hc x) (simR12 hF ha hn A hr x h0' h1' (by omega) (by omega))
    · have eb : askAt askB (3 : Int).toNat (3 : Int).toNat = 13 := by decide
      have ef : askAt askF (3 : Int).toNat (3 : Int).toNat = 0 := by decide
      rw [eb] at hr ⊢
      rw [ef]
      exact sim_beg (b := 13) (zR_s (by omega)) (fun z hz hc => c_run13 (D + 2) hz hc x (zI (dp + 1))) (fun y hy hc => m_body13 (E + 2) hy hc x) (simR13 hF ha hn A hr x h0' h1' (by omega) (by omega))
    · have eb : askAt askB (4 : Int).toNat (0 : Int).toNat = 10 := by decide
      have ef : askAt askF (4 : Int).toNat (0 : Int).toNat = 0 := by decide
      rw [eb] at hr ⊢
      rw [ef]
      exact sim_beg (b := 10) (zR_s (by omega)) (fun z hz hc => c_run10 (D + 2) hz hc x (zI (dp + 1))) (fun y hy hc => m_body10 (E + 2) hy hc x) (simR10 hF ha hn A hr x h0' h1' (by omega) (by omega))
    · have eb : askAt askB (4 : Int).toNat (1 : Int).toNat = 11 := by decide
      have ef : askAt askF (4 : Int).toNat (1 : Int).toNat = 0 := by decide
      rw [eb] at hr ⊢
      rw [ef]
      exact sim_beg (b := 11) (zR_s (by omega)) (fun z hz hc => c_run11 (D + 2) hz hc x (zI (dp + 1))) (fun y hy hc => m_body11 (E + 2) hy hc x) (simR11 hF ha hn A hr x h0' h1' (by omega) (by omega))
    · have eb : askAt askB (4 : Int).toNat (2 : Int).toNat = 50 := by decide
      have ef : askAt askF (4 : Int).toNat (2 : Int).toNat = 4 := by decide
      rw [eb] at hr ⊢
      rw [ef]
      exact sim_beg (b := 50) (zR_s (by omega)) (fun z hz hc => c_run50 (D + 2) hz hc x (zI (dp + 1))) (fun y hy hc => m_body50 (E + 2) hy hc x) (simR50 hF ha hn A hr x h0' h1' (by omega) (by omega))
    · have eb : askAt askB (4 : Int).toNat (3 : Int).toNat = 13 := by decide
      have ef : askAt askF (4 : Int).toNat (3 : Int).toNat = 0 := by decide
      rw [eb] at hr ⊢
      rw [ef]
      exact sim_beg (b := 13) (zR_s (by omega)) (fun z hz hc => c_run13 (D + 2) hz hc x (zI (dp + 1))) (fun y hy hc => m_body13 (E + 2) hy hc x) (simR13 hF ha hn A hr x h0' h1' (by omega) (by omega))
    · have eb : askAt askB (5 : Int).toNat (0 : Int).toNat = 60 := by decide
      have ef : askAt askF (5 : Int).toNat (0 : Int).toNat = 5 := by decide
      rw [eb] at hr ⊢
      rw [ef]
      exact sim_beg (b := 60) (zR_s (by omega)) (fun z hz hc => c_run60 (D + 2) hz hc x (zI (dp + 1))) (fun y hy hc => m_body60 (E + 2) hy hc x) (simR60 hF ha hn A hr x h0' h1' (by omega) (by omega))
    · have eb : askAt askB (5 : Int).toNat (1 : Int).toNat = 61 := by decide
      have ef : askAt askF (5 : Int).toNat (1 : Int).toNat = 5 := by decide
      rw [eb] at hr ⊢
      rw [ef]
      exact sim_beg (b := 61) (zR_s (by omega)) (fun z hz hc => c_run61 (D + 2) hz hc x (zI (dp + 1))) (fun y hy hc => m_body61 (E + 2) hy hc x) (simR61 hF ha hn A hr x h0' h1' (by omega) (by omega))
    · have eb : askAt askB (5 : Int).toNat (2 : Int).toNat = 12 := by decide
      have ef : askAt askF (5 : Int).toNat (2 : Int).toNat = 0 := by decide
      rw [eb] at hr ⊢
      rw [ef]
      exact sim_beg (b := 12) (zR_s (by omega)) (fun z hz hc => c_run12 (D + 2) hz hc x (zI (dp + 1))) (fun y hy hc => m_body12 (E + 2) hy hc x) (simR12 hF ha hn A hr x h0' h1' (by omega) (by omega))
    · have eb : askAt askB (5 : Int).toNat (3 : Int).toNat = 31 := by decide
      have ef : askAt askF (5 : Int).toNat (3 : Int).toNat = 2 := by decide
      rw [eb] at hr ⊢
      rw [ef]
      exact sim_beg (b := 31) (zR_s (by omega)) (fun z hz hc => c_run31 (D + 2) hz hc x (zI (dp + 1))) (fun y hy hc => m_body31 (E + 2) hy hc x) (simR31 hF ha hn A hr x h0' h1' (by omega) (by omega))
    · have eb : askAt askB (6 : Int).toNat (0 : Int).toNat = 70 := by decide
      have ef : askAt askF (6 : Int).toNat (0 : Int).toNat = 6 := by decide
      rw [eb] at hr ⊢
      rw [ef]
      exact sim_beg (b := 70) (zR_s (by omega)) (fun z hz hc => c_run70 (D + 2) hz hc x (zI (dp + 1))) (fun y hy hc => m_body70 (E + 2) hy hc x) (simR70 hF ha hn A hr x h0' h1' (by omega) (by omega))
    · have eb : askAt askB (6 : Int).toNat (1 : Int).toNat = 71 := by decide
      have ef : askAt askF (6 : Int).toNat (1 : Int).toNat = 6 := by decide
      rw [eb] at hr ⊢
      rw [ef]
      exact sim_beg (b := 71) (zR_s (by omega)) (fun z hz hc => c_run71 (D + 2) hz hc x (zI (dp + 1))) (fun y hy hc => m_body71 (E + 2) hy hc x) (simR71 hF ha hn A hr x h0' h1' (by omega) (by omega))
    · have eb : askAt askB (6 : Int).toNat (2 : Int).toNat = 72 := by decide
      have ef : askAt askF (6 : Int).toNat (2 : Int).toNat = 6 := by decide
      rw [eb] at hr ⊢
      rw [ef]
      exact sim_beg (b := 72) (zR_s (by omega)) (fun z hz hc => c_run72 (D + 2) hz hc x (zI (dp + 1))) (fun y hy hc => m_body72 (E + 2) hy hc x) (simR72 hF ha hn A hr x h0' h1' (by omega) (by omega))
    · have eb : askAt askB (6 : Int).toNat (3 : Int).toNat = 73 := by decide
      have ef : askAt askF (6 : Int).toNat (3 : Int).toNat = 6 := by decide
      rw [eb] at hr ⊢
      rw [ef]
      exact sim_beg (b := 73) (zR_s (by omega)) (fun z hz hc => c_run73 (D + 2) hz hc x (zI (dp + 1))) (fun y hy hc => m_body73 (E + 2) hy hc x) (simR73 hF ha hn A hr x h0' h1' (by omega) (by omega))
