/-! PURE, part 27: a PLAN flown -/
theorem c_orStr (d : Nat) {z : zH} (hz : zRR z) {v : Int → Int} (hR : LandR z v) (hL : LandI v) {o : Nat} (hC : okC v (crC z o)) {a : Int} (ha : zR a) : cM (d + 4) 92 [xR 26 1, xR 18 o, xI (zI a)] (hI z) = some (zI (if spOr v (crC z o) a = -1 then -3 else spOr v (crC z o) a), hI z) := by
  have c1 := fun d => c_mayC d hz hR hL hC ha
  have c2 := fun d => c_mayC d hz hR hL hC (a := 4) (zR_s (by omega))
  rw [e_X10_orStraight]
  simp only [zLit, Nat.reduceAdd, c1, xbd_n, zB_0]
  unfold spOr
  by_cases q : mayC v (crC z o) a
  · rw [if_neg (fun w => w q), if_pos q, if_neg (by have := q.1; omega)]
  · rw [if_pos q, if_neg q]
    simp only [c2, xbd_n, zB_0]
    by_cases w : mayC v (crC z o) 4
    · rw [if_neg (fun x => x w), if_pos w, if_neg (by omega)]
    · rw [if_pos w, if_neg w, if_pos rfl, zI_neg]
theorem c_plannedA (d : Nat) {z : zH} (hz : zRR z) {v : Int → Int} (hP : PPlans 9 z v) {p k : Int} (hp : 0 ≤ p ∧ p < v 8) (hk : 0 ≤ k ∧ k < 60) : cM (d + 3) 93 [xR 26 1, xI (zI p), xI (zI k)] (hI z) = some (zI (spPlanned v p k), hI z) := by
  have hc := (hP.2.2 p hp.1 hp.2).1
  have c1 := fun d => c_planCnt d hz hP hp
  rw [e_X10_planned]
  simp only [zLit, Nat.reduceAdd, c1, xbd_n]
  unfold spPlanned
  by_cases q : k < v (192 + 21 * p)
  · have c2 := fun d => c_planN d hz hP hp (i := k) ⟨hk.1, by omega⟩
    rw [if_pos (by rw [zI_lt (zR_s (by omega)) (zR_s (by omega))]; exact q), if_pos q]
    simp only [c2, xbd_n]
  · rw [if_neg (by rw [zI_lt (zR_s (by omega)) (zR_s (by omega))]; exact q), if_neg q]
theorem c_sceneN (d : Nat) {z : zH} (hz : zRR z) {v : Int → Int} (hS : PScenes 11 z v) {e f : Int} (he : 0 ≤ e ∧ e < v 9) (hf : 0 ≤ f ∧ f < 4) : cM (d + 2) 57 [xR 23 11, xI (zI e), xI (zI f)] (hI z) = some (zI (v (276 + 4 * e + f)), hI z) := by
  rw [c_rowN d hz hS.1 he hf (by simp only [Nat.reduceAdd, lenX_s]; rfl) (by omega), show (276 : Int) + (e * 4 + f) = 276 + 4 * e + f by omega]
theorem c_given (d : Nat) {z : zH} (hz : zRR z) {v : Int → Int} (hS : PScenes 11 z v) {s k : Int} (hs : s = -1 ∨ (0 ≤ s ∧ s < v 9)) (hk : 0 ≤ k ∧ k < 60) : cM (d + 3) 94 [xR 26 1, xI (zI s), xI (zI k)] (hI z) = some (zI (spGives v s k), hI z) := by
  have hb := hS.1.2.2.2.1
  have h3 := hS.1.2.2.1
  rw [e_X10_given]
  unfold spGives
  by_cases q : s = -1
  · have c1 := fun x d => c_rNone d hz (o := 11) (i := s) (k := x) (zR_s (by omega)) (by omega)
    simp only [zLit, Nat.reduceAdd, c1, xbd_n, zI_add]
    rw [if_neg (by rw [zI_lt (zR_s (by omega)) (zR_s (by omega))]; omega), if_neg (by rw [zI_lt (zR_s (by omega)) (zR_s (by omega))]; omega), if_neg (by omega)]
  · have hs : 0 ≤ s ∧ s < v 9 := by omega
    have w := hS.2 s hs.1 hs.2
    have c1 := fun d => c_sceneN d hz hS hs (f := 1) (by omega)
    have c2 := fun d => c_sceneN d hz hS hs (f := 2) (by omega)
    have c3 := fun d => c_sceneN d hz hS hs (f := 3) (by omega)
    simp only [show 276 + 4 * s + 1 = 277 + 4 * s by omega] at c1
    simp only [show 276 + 4 * s + 2 = 278 + 4 * s by omega] at c2
    simp only [show 276 + 4 * s + 3 = 279 + 4 * s by omega] at c3
    simp only [zLit, Nat.reduceAdd, c2, xbd_n]
    by_cases q1 : k < v (278 + 4 * s)
    · rw [if_pos (by rw [zI_lt (zR_s (by omega)) (zR_s (by omega))]; exact q1), if_neg (by omega)]
    · rw [if_neg (by rw [zI_lt (zR_s (by omega)) (zR_s (by omega))]; exact q1)]
      simp only [c3, xbd_n, zI_add]
      by_cases q2 : k < v (278 + 4 * s) + v (279 + 4 * s)
      · rw [if_pos (by rw [zI_lt (zR_s (by omega)) (zR_s (by omega))]; exact q2), if_pos ⟨hs.1, by omega, q2⟩]
        simp only [c1, xbd_n]
      · rw [if_neg (by rw [zI_lt (zR_s (by omega)) (zR_s (by omega))]; exact q2), if_neg (fun w => q2 w.2.2)]
theorem spGives_b {z : zH} {v : Int → Int} (hS : PScenes 11 z v) {s k : Int} (hs : s = -1 ∨ (0 ≤ s ∧ s < v 9)) : 0 ≤ spGives v s k ∧ spGives v s k ≤ 9 := by
  unfold spGives
  split
  · rename_i q
    have := hS.2 s q.1 (by omega)
    omega
  · omega
theorem spPlanned_b {z : zH} {v : Int → Int} (hP : PPlans 9 z v) {p k : Int} (hp : 0 ≤ p ∧ p < v 8) (hk : 0 ≤ k) : 0 ≤ spPlanned v p k ∧ spPlanned v p k ≤ 8 := by
  unfold spPlanned
  split
  · rename_i q
    exact (hP.2.2 p hp.1 hp.2).2 k hk q
  · omega
theorem m_flownFor (d : Nat) {z : zH} (hz : zRR z) (hL : LandI (z 101)) (hC : okC (z 101) (crM z)) {a : Int} (ha : 0 ≤ a ∧ a ≤ 8) : cM (d + 4) 196 [xR 28 100, xI (zI a)] (hI z) = some (zI (spOr (z 101) (crM z) a), hI z) := by
  have c1 := fun d => m_mayC d hz hL hC ha
  have c2 := fun d => m_mayC d hz hL hC (a := 4) (by omega)
  rw [e_X12_flownFor]
  simp only [zLit, c1, xbd_n, zB_0]
  unfold spOr
  by_cases q : mayC (z 101) (crM z) a
  · rw [if_neg (fun w => w q), if_pos q]
  · rw [if_pos q, if_neg q]
    simp only [c2, xbd_n, zB_0]
    by_cases w : mayC (z 101) (crM z) 4
    · rw [if_neg (fun x => x w), if_pos w]
    · rw [if_pos w, if_neg w, zI_neg]
theorem m_plannedAt (d : Nat) {z : zH} (hz : zRR z) {p k : Int} (hp : 0 ≤ p ∧ p < 4) (hk : z 100 16 = k) (hk2 : 0 ≤ k ∧ k ≤ 60) (hc : 0 ≤ z 101 (192 + 21 * p) ∧ z 101 (192 + 21 * p) ≤ 20) : cM (d + 2) 197 [xR 28 100, xI (zI p)] (hI z) = some (zI (spPlanned (z 101) p k), hI z) := by
  have e1 : 192 + 21 * p + 1 + k = 193 + 21 * p + k := by omega
  rw [e_X12_plannedAt]
  unfold spPlanned
  by_cases q : k < z 101 (192 + 21 * p)
  · repeat' (first | (with_reducible apply hs_f; (case h => (first | (simp (disch := (first | exact hz _ _ | exact hv _ | exact hL | assumption | (simp (disch := decide) only [zup_ne]; exact hL) | (simp only [zR]; omega) | omega)) only [zLit, zI_div, hI_fs, hI_us, zI_add, zI_sub, zI_mul, zI_neg, zI_lt, zI_eq, zI_ite, xbd_s, zI_nat, zld, zst, zbd, zB_0, zB_1, lenX_s, zup_at, xgd, cond_true, cond_false, and_self, and_true, true_and, false_and, and_false, or_self, or_false, false_or, if_true, if_false, ite_true, ite_false, reduceIte, reduceCtorEq, Nat.reduceEqDiff, Nat.reduceAdd, Nat.reduceMul, Int.reduceNeg, Int.reduceAdd, Int.reduceSub, Int.reduceMul, Int.reduceLT, Int.reduceLE, Int.reduceEq, Int.reduceDiv, Int.reduceMod, Int.reduceToNat, Int.toNat_zero, Int.toNat_one, Nat.reduceLeDiff, Nat.reduceLT, ite_not, not_true, not_false_eq_true, hk] <;> omega) | omega))) | (with_reducible apply hs_t; (case h => (first | (simp (disch := (first | exact hz _ _ | exact hv _ | exact hL | assumption | (simp (disch := decide) only [zup_ne]; exact hL) | (simp only [zR]; omega) | omega)) only [zLit, zI_div, hI_fs, hI_us, zI_add, zI_sub, zI_mul, zI_neg, zI_lt, zI_eq, zI_ite, xbd_s, zI_nat, zld, zst, zbd, zB_0, zB_1, lenX_s, zup_at, xgd, cond_true, cond_false, and_self, and_true, true_and, false_and, and_false, or_self, or_false, false_or, if_true, if_false, ite_true, ite_false, reduceIte, reduceCtorEq, Nat.reduceEqDiff, Nat.reduceAdd, Nat.reduceMul, Int.reduceNeg, Int.reduceAdd, Int.reduceSub, Int.reduceMul, Int.reduceLT, Int.reduceLE, Int.reduceEq, Int.reduceDiv, Int.reduceMod, Int.reduceToNat, Int.toNat_zero, Int.toNat_one, Nat.reduceLeDiff, Nat.reduceLT, ite_not, not_true, not_false_eq_true, hk] <;> omega) | omega))) | (with_reducible apply hs_b; (case h => (simp (disch := (first | exact hz _ _ | exact hv _ | exact hL | assumption | (simp (disch := decide) only [zup_ne]; exact hL) | (simp only [zR]; omega) | omega)) only [zLit, zI_div, hI_fs, hI_us, zI_add, zI_sub, zI_mul, zI_neg, zI_lt, zI_eq, zI_ite, xbd_s, zI_nat, zld, zst, zbd, zB_0, zB_1, lenX_s, zup_at, xgd, cond_true, cond_false, and_self, and_true, true_and, false_and, and_false, or_self, or_false, false_or, if_true, if_false, ite_true, ite_false, reduceIte, reduceCtorEq, Nat.reduceEqDiff, Nat.reduceAdd, Nat.reduceMul, Int.reduceNeg, Int.reduceAdd, Int.reduceSub, Int.reduceMul, Int.reduceLT, Int.reduceLE, Int.reduceEq, Int.reduceDiv, Int.reduceMod, Int.reduceToNat, Int.toNat_zero, Int.toNat_one, Nat.reduceLeDiff, Nat.reduceLT, ite_not, not_true, not_false_eq_true, hk, m_planned]; rfl)); try dsimp only) | (with_reducible apply hs_c <;> intro q9 <;> (try simp (disch := (first | exact hz _ _ | exact hv _ | exact hL | assumption | (simp (disch := decide) only [zup_ne]; exact hL) | (simp only [zR]; omega) | omega)) only [zLit, zI_div, hI_fs, hI_us, zI_add, zI_sub, zI_mul, zI_neg, zI_lt, zI_eq, zI_ite, xbd_s, zI_nat, zld, zst, zbd, zB_0, zB_1, lenX_s, zup_at, xgd, cond_true, cond_false, and_self, and_true, true_and, false_and, and_false, or_self, or_false, false_or, if_true, if_false, ite_true, ite_false, reduceIte, reduceCtorEq, Nat.reduceEqDiff, Nat.reduceAdd, Nat.reduceMul, Int.reduceNeg, Int.reduceAdd, Int.reduceSub, Int.reduceMul, Int.reduceLT, Int.reduceLE, Int.reduceEq, Int.reduceDiv, Int.reduceMod, Int.reduceToNat, Int.toNat_zero, Int.toNat_one, Nat.reduceLeDiff, Nat.reduceLT, ite_not, not_true, not_false_eq_true, hk] at q9)))
    all_goals first | rfl | omega | (simp (maxSteps := 3000000) (disch := (first | exact hz _ _ | exact hv _ | exact hL | assumption | (simp (disch := decide) only [zup_ne]; exact hL) | (simp only [zR]; omega) | omega)) only [zLit, zI_div, hI_fs, hI_us, zI_add, zI_sub, zI_mul, zI_neg, zI_lt, zI_eq, zI_ite, xbd_s, zI_nat, zld, zst, zbd, zB_0, zB_1, lenX_s, zup_at, xgd, cond_true, cond_false, and_self, and_true, true_and, false_and, and_false, or_self, or_false, false_or, if_true, if_false, ite_true, ite_false, reduceIte, reduceCtorEq, Nat.reduceEqDiff, Nat.reduceAdd, Nat.reduceMul, Int.reduceNeg, Int.reduceAdd, Int.reduceSub, Int.reduceMul, Int.reduceLT, Int.reduceLE, Int.reduceEq, Int.reduceDiv, Int.reduceMod, Int.reduceToNat, Int.toNat_zero, Int.toNat_one, Nat.reduceLeDiff, Nat.reduceLT, ite_not, not_true, not_false_eq_true, hk, e1, q]; done) | (simp (maxSteps := 3000000) (disch := (first | exact hz _ _ | exact hv _ | exact hL | assumption | (simp (disch := decide) only [zup_ne]; exact hL) | (simp only [zR]; omega) | omega)) only [zLit, zI_div, hI_fs, hI_us, zI_add, zI_sub, zI_mul, zI_neg, zI_lt, zI_eq, zI_ite, xbd_s, zI_nat, zld, zst, zbd, zB_0, zB_1, lenX_s, zup_at, xgd, cond_true, cond_false, and_self, and_true, true_and, false_and, and_false, or_self, or_false, false_or, if_true, if_false, ite_true, ite_false, reduceIte, reduceCtorEq, Nat.reduceEqDiff, Nat.reduceAdd, Nat.reduceMul, Int.reduceNeg, Int.reduceAdd, Int.reduceSub, Int.reduceMul, Int.reduceLT, Int.reduceLE, Int.reduceEq, Int.reduceDiv, Int.reduceMod, Int.reduceToNat, Int.toNat_zero, Int.toNat_one, Nat.reduceLeDiff, Nat.reduceLT, ite_not, not_true, not_false_eq_true, hk, e1, q]; rfl)
  · repeat' (first | (with_reducible apply hs_f; (case h => (first | (simp (disch := (first | exact hz _ _ | exact hv _ | exact hL | assumption | (simp (disch := decide) only [zup_ne]; exact hL) | (simp only [zR]; omega) | omega)) only [zLit, zI_div, hI_fs, hI_us, zI_add, zI_sub, zI_mul, zI_neg, zI_lt, zI_eq, zI_ite, xbd_s, zI_nat, zld, zst, zbd, zB_0, zB_1, lenX_s, zup_at, xgd, cond_true, cond_false, and_self, and_true, true_and, false_and, and_false, or_self, or_false, false_or, if_true, if_false, ite_true, ite_false, reduceIte, reduceCtorEq, Nat.reduceEqDiff, Nat.reduceAdd, Nat.reduceMul, Int.reduceNeg, Int.reduceAdd, Int.reduceSub, Int.reduceMul, Int.reduceLT, Int.reduceLE, Int.reduceEq, Int.reduceDiv, Int.reduceMod, Int.reduceToNat, Int.toNat_zero, Int.toNat_one, Nat.reduceLeDiff, Nat.reduceLT, ite_not, not_true, not_false_eq_true, hk] <;> omega) | omega))) | (with_reducible apply hs_t; (case h => (first | (simp (disch := (first | exact hz _ _ | exact hv _ | exact hL | assumption | (simp (disch := decide) only [zup_ne]; exact hL) | (simp only [zR]; omega) | omega)) only [zLit, zI_div, hI_fs, hI_us, zI_add, zI_sub, zI_mul, zI_neg, zI_lt, zI_eq, zI_ite, xbd_s, zI_nat, zld, zst, zbd, zB_0, zB_1, lenX_s, zup_at, xgd, cond_true, cond_false, and_self, and_true, true_and, false_and, and_false, or_self, or_false, false_or, if_true, if_false, ite_true, ite_false, reduceIte, reduceCtorEq, Nat.reduceEqDiff, Nat.reduceAdd, Nat.reduceMul, Int.reduceNeg, Int.reduceAdd, Int.reduceSub, Int.reduceMul, Int.reduceLT, Int.reduceLE, Int.reduceEq, Int.reduceDiv, Int.reduceMod, Int.reduceToNat, Int.toNat_zero, Int.toNat_one, Nat.reduceLeDiff, Nat.reduceLT, ite_not, not_true, not_false_eq_true, hk] <;> omega) | omega))) | (with_reducible apply hs_b; (case h => (simp (disch := (first | exact hz _ _ | exact hv _ | exact hL | assumption | (simp (disch := decide) only [zup_ne]; exact hL) | (simp only [zR]; omega) | omega)) only [zLit, zI_div, hI_fs, hI_us, zI_add, zI_sub, zI_mul, zI_neg, zI_lt, zI_eq, zI_ite, xbd_s, zI_nat, zld, zst, zbd, zB_0, zB_1, lenX_s, zup_at, xgd, cond_true, cond_false, and_self, and_true, true_and, false_and, and_false, or_self, or_false, false_or, if_true, if_false, ite_true, ite_false, reduceIte, reduceCtorEq, Nat.reduceEqDiff, Nat.reduceAdd, Nat.reduceMul, Int.reduceNeg, Int.reduceAdd, Int.reduceSub, Int.reduceMul, Int.reduceLT, Int.reduceLE, Int.reduceEq, Int.reduceDiv, Int.reduceMod, Int.reduceToNat, Int.toNat_zero, Int.toNat_one, Nat.reduceLeDiff, Nat.reduceLT, ite_not, not_true, not_false_eq_true, hk, m_planned]; rfl)); try dsimp only) | (with_reducible apply hs_c <;> intro q9 <;> (try simp (disch := (first | exact hz _ _ | exact hv _ | exact hL | assumption | (simp (disch := decide) only [zup_ne]; exact hL) | (simp only [zR]; omega) | omega)) only [zLit, zI_div, hI_fs, hI_us, zI_add, zI_sub, zI_mul, zI_neg, zI_lt, zI_eq, zI_ite, xbd_s, zI_nat, zld, zst, zbd, zB_0, zB_1, lenX_s, zup_at, xgd, cond_true, cond_false, and_self, and_true, true_and, false_and, and_false, or_self, or_false, false_or, if_true, if_false, ite_true, ite_false, reduceIte, reduceCtorEq, Nat.reduceEqDiff, Nat.reduceAdd, Nat.reduceMul, Int.reduceNeg, Int.reduceAdd, Int.reduceSub, Int.reduceMul, Int.reduceLT, Int.reduceLE, Int.reduceEq, Int.reduceDiv, Int.reduceMod, Int.reduceToNat, Int.toNat_zero, Int.toNat_one, Nat.reduceLeDiff, Nat.reduceLT, ite_not, not_true, not_false_eq_true, hk] at q9)))
    all_goals first | rfl | omega | (simp (maxSteps := 3000000) (disch := (first | exact hz _ _ | exact hv _ | exact hL | assumption | (simp (disch := decide) only [zup_ne]; exact hL) | (simp only [zR]; omega) | omega)) only [zLit, zI_div, hI_fs, hI_us, zI_add, zI_sub, zI_mul, zI_neg, zI_lt, zI_eq, zI_ite, xbd_s, zI_nat, zld, zst, zbd, zB_0, zB_1, lenX_s, zup_at, xgd, cond_true, cond_false, and_self, and_true, true_and, false_and, and_false, or_self, or_false, false_or, if_true, if_false, ite_true, ite_false, reduceIte, reduceCtorEq, Nat.reduceEqDiff, Nat.reduceAdd, Nat.reduceMul, Int.reduceNeg, Int.reduceAdd, Int.reduceSub, Int.reduceMul, Int.reduceLT, Int.reduceLE, Int.reduceEq, Int.reduceDiv, Int.reduceMod, Int.reduceToNat, Int.toNat_zero, Int.toNat_one, Nat.reduceLeDiff, Nat.reduceLT, ite_not, not_true, not_false_eq_true, hk, q]; done) | (simp (maxSteps := 3000000) (disch := (first | exact hz _ _ | exact hv _ | exact hL | assumption | (simp (disch := decide) only [zup_ne]; exact hL) | (simp only [zR]; omega) | omega)) only [zLit, zI_div, hI_fs, hI_us, zI_add, zI_sub, zI_mul, zI_neg, zI_lt, zI_eq, zI_ite, xbd_s, zI_nat, zld, zst, zbd, zB_0, zB_1, lenX_s, zup_at, xgd, cond_true, cond_false, and_self, and_true, true_and, false_and, and_false, or_self, or_false, false_or, if_true, if_false, ite_true, ite_false, reduceIte, reduceCtorEq, Nat.reduceEqDiff, Nat.reduceAdd, Nat.reduceMul, Int.reduceNeg, Int.reduceAdd, Int.reduceSub, Int.reduceMul, Int.reduceLT, Int.reduceLE, Int.reduceEq, Int.reduceDiv, Int.reduceMod, Int.reduceToNat, Int.toNat_zero, Int.toNat_one, Nat.reduceLeDiff, Nat.reduceLT, ite_not, not_true, not_false_eq_true, hk, q]; rfl)
theorem m_scene_ (d : Nat) {z : zH} {e f : Int} (h0 : 0 ≤ 276 + 4 * e + f) (h1 : 276 + 4 * e + f < 572) : cM (d + 1) 194 [xR 28 100, xI (zI e), xI (zI f)] (hI z) = some (zI (z 101 (276 + 4 * e + f)), hI z) := by
  rw [e_X12_scene_]
  simp (maxSteps := 3000000) (disch := (first | exact hz _ _ | exact hv _ | exact hL | assumption | (simp (disch := decide) only [zup_ne]; exact hL) | (simp only [zR]; omega) | omega)) only [zLit, zI_div, hI_fs, hI_us, zI_add, zI_sub, zI_mul, zI_neg, zI_lt, zI_eq, zI_ite, xbd_s, zI_nat, zld, zst, zbd, zB_0, zB_1, lenX_s, zup_at, xgd, cond_true, cond_false, and_self, and_true, true_and, false_and, and_false, or_self, or_false, false_or, if_true, if_false, ite_true, ite_false, reduceIte, reduceCtorEq, Nat.reduceEqDiff, Nat.reduceAdd, Nat.reduceMul, Int.reduceNeg, Int.reduceAdd, Int.reduceSub, Int.reduceMul, Int.reduceLT, Int.reduceLE, Int.reduceEq, Int.reduceDiv, Int.reduceMod, Int.reduceToNat, Int.toNat_zero, Int.toNat_one, Nat.reduceLeDiff, Nat.reduceLT, ite_not, not_true, not_false_eq_true]
/-- the chooser of a PLAN -/
abbrev chP (v : Int → Int) (p : Int) : Int → crft → Int := fun k c => spOr v c (spPlanned v p k)
theorem chP_may {v : Int → Int} {p : Int} : ∀ k c, 0 ≤ chP v p k c → mayC v c (chP v p k c) := fun _ _ h => spOr_may h
/-- what stands behind k ticks: the model's log, the class's -/
def logM (z : zH) (v : Int → Int) (ch : Int → crft → Int) (gv : Int → Int) (c0 : crft) (k : Nat) : Prop := ∀ j : Nat, j < k → z 108 j = ch j (traj v ch gv c0 j) ∧ z 109 j = (traj v ch gv c0 (j + 1)).2.2.2
def logC (z : zH) (v : Int → Int) (ch : Int → crft → Int) (gv : Int → Int) (c0 : crft) (k : Nat) : Prop := ∀ j : Nat, j < k → j < 30 → z 48 (2 * j) = ch j (traj v ch gv c0 j) ∧ z 48 (2 * j + 1) = (traj v ch gv c0 (j + 1)).2.2.2
theorem c_byPlan_l (d : Nat) {v : Int → Int} (hL : LandI v) {p s : Int} (hp : 0 ≤ p ∧ p < v 8) (hs : s = -1 ∨ (0 ≤ s ∧ s < v 9)) {c0 : crft} : ∀ (m k : Nat) (z : zH), k + m = 60 → zRR z → (∀ k, zR (v k)) → LandR z v → PPlans 9 z v → PScenes 11 z v → okC v (traj v (chP v p) (spGives v s) c0 k) → crC z 46 = traj v (chP v p) (spGives v s) c0 k → (0 ≤ z 46 4 ∧ z 46 4 ≤ 200 + k) → z 45 2 = k → z 47 0 = 30 → z 47 1 = 2 → (z 47 3 = if (k : Int) < 30 then (k : Int) else 30) → logC z v (chP v p) (spGives v s) c0 k → ∀ n, m < n →
    xw (r_X3_byPlan (d + 5) n 8 [some (xR 19 45), some (xR 26 1), some (xI (zI p)), some (xI (zI s)), some (xI (zI k)), none] [] (hI z)) (fun _ z' => crC z' 46 = traj v (chP v p) (spGives v s) c0 (endT v (chP v p) (spGives v s) c0 m k) ∧ z' 45 2 = endT v (chP v p) (spGives v s) c0 m k ∧ z' 47 0 = 30 ∧ z' 47 1 = 2 ∧ (z' 47 3 = if (endT v (chP v p) (spGives v s) c0 m k : Int) < 30 then (endT v (chP v p) (spGives v s) c0 m k : Int) else 30) ∧ logC z' v (chP v p) (spGives v s) c0 (endT v (chP v p) (spGives v s) c0 m k) ∧ fr [45, 46, 47, 48] z z') := by
  intro m
  induction m with
  | zero =>
    intro k z hkm hz hv hR hP hS hok hC ht h45 h0 h1 h3 hl n hn
    obtain ⟨n, rfl⟩ := Nat.exists_eq_succ_of_ne_zero (show n ≠ 0 by omega)
    have hk : k = 60 := by omega
    subst hk
    rw [l_X3_byPlan_8, if_neg (by decide)]
    simp only [zLit]
    exact xw_ret (zR_s (by omega)) hz ⟨hC, h45, h0, h1, h3, hl, fr_rf _ _⟩
  | succ m ih =>
    intro k z hkm hz hv hR hP hS hok hC ht h45 h0 h1 h3 hl n hn
    obtain ⟨n, rfl⟩ := Nat.exists_eq_succ_of_ne_zero (show n ≠ 0 by omega)
    have hkr : zR (k : Int) := zR_s (by omega)
    have har := area hL.1 hL.2.1
    have hok' : okC v (crC z 46) := by rw [hC]; exact hok
    have cd := fun d => c_isDown d hz hR (o := 46) (hv _) ⟨hok'.1.1, by have := hok'.1.2; simp only at this; omega⟩
    rw [l_X3_byPlan_8]
    simp only [zLit, Nat.reduceAdd]
    rw [if_pos (by rw [zI_lt hkr (zR_s (by omega))]; omega)]
    simp only [cd, xbd_n, zB_0]
    unfold endT
    by_cases q : z 46 3 ≤ v (24 + z 46 0)
    · have e : spOr v (crC z 46) (spPlanned v p k) = -1 := spOr_dn q
      rw [hC] at e
      rw [if_neg (fun w => w q)]
      have e2 : chP v p (k : Int) (traj v (chP v p) (spGives v s) c0 k) < 0 := by show spOr _ _ _ < 0; rw [e]; omega
      simp only [if_pos e2]
      exact xw_ret (zR_s (by omega)) hz ⟨hC, h45, h0, h1, h3, hl, fr_rf _ _⟩
    · rw [if_pos q]
      have cp := fun d => c_plannedA d hz hP hp (k := k) ⟨by omega, by omega⟩
      have pb := spPlanned_b hP hp (k := k) (by omega)
      have co := fun d => c_orStr d hz hR hL hok' (a := spPlanned v p k) (zR_s (by omega))
      simp only [cp, xbd_n]
      simp only [co, xbd_n]
      have ob := spOr_b (v := v) (c := crC z 46) (a := spPlanned v p k)
      rcases ob with ob | ob
      · rw [if_pos ob, if_pos (by rw [zI_lt (zR_s (by omega)) (zR_s (by omega))]; omega)]
        rw [hC] at ob
        have e2 : chP v p (k : Int) (traj v (chP v p) (spGives v s) c0 k) < 0 := by show spOr _ _ _ < 0; rw [ob]; omega
        simp only [if_pos e2]
        exact xw_ret (zR_s (by omega)) hz ⟨hC, h45, h0, h1, h3, hl, fr_rf _ _⟩
      · have hm := spOr_may ob.1
        have hne : ¬ spOr v (crC z 46) (spPlanned v p k) = -1 := by omega
        have hnr : zR (spOr v (crC z 46) (spPlanned v p k)) := zR_s (by omega)
        rw [if_neg hne, if_neg (by rw [zI_lt hnr (zR_s (by omega))]; omega)]
        have cg := fun d => c_given d hz hS hs (k := k) ⟨by omega, by omega⟩
        have gb := spGives_b hS hs (k := k)
        simp only [cg, xbd_n]
        have e2 : ¬ chP v p (k : Int) (traj v (chP v p) (spGives v s) c0 k) < 0 := by show ¬ spOr _ _ _ < 0; rw [← hC]; omega
        simp only [if_neg e2]
        refine xw_k (c_goW _ hz hR hL hok' (by omega) hm gb h45 ⟨by omega, by omega⟩ h0 h1 h3) ?_
        intro r z1 hr hz1 ⟨w1, w2, w3, w4, w5, w6, w7, f⟩
        have w1' : crC z1 46 = traj v (chP v p) (spGives v s) c0 (k + 1) := by
          rw [w1, hC]
          rfl
        have hok2 : okC v (traj v (chP v p) (spGives v s) c0 (k + 1)) := by
          rw [← w1', w1]
          exact goC_ok hL hok' hm gb.1
        rw [zI_add]
        refine xw_m (ih (k + 1) z1 (by omega) hz1 hv (LandR_fr hR f rfl rfl rfl rfl) (PPlans_t hP (f 9 rfl) (f 10 rfl) (fun _ _ => rfl)) (PScenes_t hS (f 11 rfl) (f 12 rfl) (fun _ _ => rfl)) hok2 w1' ⟨by omega, by omega⟩ (by rw [w3]; omega) w4 w5 (by rw [w6]; rw [show ((k + 1 : Nat) : Int) = (k : Int) + 1 by omega]) ?_ n (by omega)) ?_
        · intro j hj hj30
          rw [w7, w7]
          by_cases ej : j = k
          · subst ej
            rw [if_pos (by omega), if_neg (by omega), if_pos (by omega)]
            refine ⟨by rw [hC], ?_⟩
            rw [← w1', w1]
          · rw [if_neg (by omega), if_neg (by omega), if_neg (by omega), if_neg (by omega)]
            exact hl j (by omega) hj30
        · intro r2 z2 _ _ ⟨x1, x2, x3, x4, x5, x6, x7⟩
          exact ⟨x1, x2, x3, x4, x5, x6, fr_tr f x7 rfl⟩
