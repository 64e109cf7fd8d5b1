/-! PURE, part 1: the land; what an ACT does -/
def spAhead (w hg c way many : Int) : Int :=
  if 0 ≤ c % w + (if way = 1 then many else if way = 3 then -many else 0) ∧ c % w + (if way = 1 then many else if way = 3 then -many else 0) < w ∧ 0 ≤ c / w + (if way = 2 then many else if way = 0 then -many else 0) ∧ c / w + (if way = 2 then many else if way = 0 then -many else 0) < hg
  then (c / w + (if way = 2 then many else if way = 0 then -many else 0)) * w + (c % w + (if way = 1 then many else if way = 3 then -many else 0)) else -1
def spTurn (hd act : Int) : Int := (hd + act / 3 - 1) % 4
def spPace (sp act : Int) : Int := sp + act % 3 - 1
def spFar (sp : Int) : Int := if sp = 2 then 2 else 1
/-- where it goes on by an ACT: the cell, or -1 -/
def spGo (v : Int → Int) (c hd sp act : Int) : Int := spAhead (v 0) (v 1) c (spTurn hd act) (spFar (spPace sp act))
abbrev spMay (v : Int → Int) (c hd sp ht act : Int) : Prop := (0 ≤ act ∧ act ≤ 8) ∧ ¬ ht ≤ v (24 + c) ∧ (0 ≤ spPace sp act ∧ spPace sp act ≤ 2) ∧ 0 ≤ spGo v c hd sp act
def spLoss (v : Int → Int) (hd sp act : Int) : Int := v (15 + sp) + v (20 + hd) + (if act / 3 = 1 then 0 else v 18) + (if act % 3 = 1 then 0 else v 19)
/-- the land is as it should be -/
def LandI (v : Int → Int) : Prop := (1 ≤ v 0 ∧ v 0 ≤ 8) ∧ (1 ≤ v 1 ∧ v 1 ≤ 8) ∧ (∀ c, 0 ≤ c → c < 64 → 0 ≤ v (24 + c) ∧ v (24 + c) ≤ 99) ∧ (∀ c, 0 ≤ c → c < 64 → 0 ≤ v (88 + c) ∧ v (88 + c) ≤ 99) ∧ (∀ k, 0 ≤ k → k < 3 → 1 ≤ v (15 + k) ∧ v (15 + k) ≤ 9) ∧ (0 ≤ v 18 ∧ v 18 ≤ 9) ∧ (0 ≤ v 19 ∧ v 19 ≤ 9) ∧ (∀ k, 0 ≤ k → k < 4 → 0 ≤ v (20 + k) ∧ v (20 + k) ≤ 5)
theorem cell_div {w c : Int} (hw : 1 ≤ w ∧ w ≤ 8) (hc : 0 ≤ c ∧ c < 64) : 0 ≤ c / w ∧ c / w < 64 ∧ 0 ≤ c % w ∧ c % w < w ∧ c / w * w = c - c % w := by
  have h1 := Int.ediv_nonneg hc.1 (show 0 ≤ w by omega)
  have h2 := Int.ediv_le_self w hc.1
  have h3 := Int.emod_nonneg c (show w ≠ 0 by omega)
  have h4 := Int.emod_lt_of_pos c (show 0 < w by omega)
  have h5 := Int.emod_def c w
  rw [Int.mul_comm] at h5
  omega
theorem spAhead_b {w hg c way many : Int} (hw : 1 ≤ w ∧ w ≤ 8) (hh : 1 ≤ hg ∧ hg ≤ 8) : spAhead w hg c way many = -1 ∨ (0 ≤ spAhead w hg c way many ∧ spAhead w hg c way many < w * hg) := by
  unfold spAhead
  generalize hx : c % w + (if way = 1 then many else if way = 3 then -many else 0) = x
  generalize hy : c / w + (if way = 2 then many else if way = 0 then -many else 0) = y
  by_cases h : 0 ≤ x ∧ x < w ∧ 0 ≤ y ∧ y < hg
  · rw [if_pos h]
    right
    obtain ⟨h1, h2, h3, h4⟩ := h
    have h5 : 0 ≤ y * w := Int.mul_nonneg h3 (by omega)
    have h6 : y * w ≤ (hg - 1) * w := Int.mul_le_mul_of_nonneg_right (by omega) (by omega)
    have h7 : (hg - 1) * w = w * hg - w := by rw [Int.sub_mul, Int.mul_comm]; omega
    omega
  · rw [if_neg h]
    left
    rfl
theorem area {w hg : Int} (hw : 1 ≤ w ∧ w ≤ 8) (hh : 1 ≤ hg ∧ hg ≤ 8) : 1 ≤ w * hg ∧ w * hg ≤ 64 := by
  have h1 : w * hg ≤ 8 * hg := Int.mul_le_mul_of_nonneg_right hw.2 (by omega)
  have h2 : 1 * hg ≤ w * hg := Int.mul_le_mul_of_nonneg_right hw.1 (by omega)
  omega
/-! the model's -/
theorem m_within (d : Nat) {a b c : Int} (ha : zR a) (hb : zR b) (hc : zR c) (h : xH) : cM (d + 1) 153 [xI (zI a), xI (zI b), xI (zI c)] h = some (zB (b ≤ a ∧ a ≤ c), h) := by
  rw [e_X12_within]
  simp (maxSteps := 3000000) (disch := (first | exact hz _ _ | exact hv _ | exact hL | assumption | (simp (disch := decide) only [zup_ne]; exact hL) | (simp only [zR]; omega) | omega)) only [zLit, zI_div, hI_fs, hI_us, zI_add, zI_sub, zI_mul, zI_neg, zI_lt, zI_eq, zI_ite, xbd_s, zI_nat, zld, zst, zbd, zB_0, zB_1, lenX_s, zup_at, xgd, cond_true, cond_false, and_self, and_true, true_and, false_and, and_false, or_self, or_false, false_or, if_true, if_false, ite_true, ite_false, reduceIte, reduceCtorEq, Nat.reduceEqDiff, Nat.reduceAdd, Nat.reduceMul, Int.reduceNeg, Int.reduceAdd, Int.reduceSub, Int.reduceMul, Int.reduceLT, Int.reduceLE, Int.reduceEq, Int.reduceDiv, Int.reduceMod, Int.reduceToNat, Int.toNat_zero, Int.toNat_one, Nat.reduceLeDiff, Nat.reduceLT, ite_not, not_true, not_false_eq_true]
  simp only [zB_z]
  grind
theorem m_is (d : Nat) {z : zH} (hz : ∀ o k, zR (z o k)) {a b : Int} (ha : zR a) (hb : 0 ≤ b ∧ b < 572) (hv : 0 ≤ z 101 b ∧ z 101 b ≤ 1000) : cM (d + 2) 154 [xR 28 100, xI (zI a), xI (zI b)] (hI z) = some (zB (0 ≤ a ∧ a < z 101 b), hI z) := by
  rw [e_X12_is]
  simp (maxSteps := 3000000) (disch := (first | exact hz _ _ | exact hv _ | exact hL | assumption | (simp (disch := decide) only [zup_ne]; exact hL) | (simp only [zR]; omega) | omega)) only [zLit, zI_div, hI_fs, hI_us, zI_add, zI_sub, zI_mul, zI_neg, zI_lt, zI_eq, zI_ite, xbd_s, zI_nat, zld, zst, zbd, zB_0, zB_1, lenX_s, zup_at, xgd, cond_true, cond_false, and_self, and_true, true_and, false_and, and_false, or_self, or_false, false_or, if_true, if_false, ite_true, ite_false, reduceIte, reduceCtorEq, Nat.reduceEqDiff, Nat.reduceAdd, Nat.reduceMul, Int.reduceNeg, Int.reduceAdd, Int.reduceSub, Int.reduceMul, Int.reduceLT, Int.reduceLE, Int.reduceEq, Int.reduceDiv, Int.reduceMod, Int.reduceToNat, Int.toNat_zero, Int.toNat_one, Nat.reduceLeDiff, Nat.reduceLT, ite_not, not_true, not_false_eq_true, m_within]
  simp only [zB_z]
  grind
theorem m_become (d : Nat) {z : zH} {k u : Int} (hk : 0 ≤ k ∧ k < 572) : cM (d + 1) 155 [xR 28 100, xI (zI k), xI (zI u)] (hI z) = some (zI (z 101 k), hI (zup z 101 k u)) := by
  rw [e_X12_become]
  simp (maxSteps := 3000000) (disch := (first | exact hz _ _ | exact hv _ | exact hL | assumption | (simp (disch := decide) only [zup_ne]; exact hL) | (simp only [zR]; omega) | omega)) only [zLit, zI_div, hI_fs, hI_us, zI_add, zI_sub, zI_mul, zI_neg, zI_lt, zI_eq, zI_ite, xbd_s, zI_nat, zld, zst, zbd, zB_0, zB_1, lenX_s, zup_at, xgd, cond_true, cond_false, and_self, and_true, true_and, false_and, and_false, or_self, or_false, false_or, if_true, if_false, ite_true, ite_false, reduceIte, reduceCtorEq, Nat.reduceEqDiff, Nat.reduceAdd, Nat.reduceMul, Int.reduceNeg, Int.reduceAdd, Int.reduceSub, Int.reduceMul, Int.reduceLT, Int.reduceLE, Int.reduceEq, Int.reduceDiv, Int.reduceMod, Int.reduceToNat, Int.toNat_zero, Int.toNat_one, Nat.reduceLeDiff, Nat.reduceLT, ite_not, not_true, not_false_eq_true]
theorem m_cells (d : Nat) {z : zH} : cM (d + 1) 156 [xR 28 100] (hI z) = some (zI (z 101 0 * z 101 1), hI z) := by
  rw [e_X12_cells]
  simp (maxSteps := 3000000) (disch := (first | exact hz _ _ | exact hv _ | exact hL | assumption | (simp (disch := decide) only [zup_ne]; exact hL) | (simp only [zR]; omega) | omega)) only [zLit, zI_div, hI_fs, hI_us, zI_add, zI_sub, zI_mul, zI_neg, zI_lt, zI_eq, zI_ite, xbd_s, zI_nat, zld, zst, zbd, zB_0, zB_1, lenX_s, zup_at, xgd, cond_true, cond_false, and_self, and_true, true_and, false_and, and_false, or_self, or_false, false_or, if_true, if_false, ite_true, ite_false, reduceIte, reduceCtorEq, Nat.reduceEqDiff, Nat.reduceAdd, Nat.reduceMul, Int.reduceNeg, Int.reduceAdd, Int.reduceSub, Int.reduceMul, Int.reduceLT, Int.reduceLE, Int.reduceEq, Int.reduceDiv, Int.reduceMod, Int.reduceToNat, Int.toNat_zero, Int.toNat_one, Nat.reduceLeDiff, Nat.reduceLT, ite_not, not_true, not_false_eq_true]
theorem m_isCell (d : Nat) {z : zH} (hL : LandI (z 101)) {c : Int} (hc : zR c) : cM (d + 2) 157 [xR 28 100, xI (zI c)] (hI z) = some (zB (0 ≤ c ∧ c < z 101 0 * z 101 1), hI z) := by
  have ha := area hL.1 hL.2.1
  rw [e_X12_isCell]
  simp (maxSteps := 3000000) (disch := (first | exact hz _ _ | exact hv _ | exact hL | assumption | (simp (disch := decide) only [zup_ne]; exact hL) | (simp only [zR]; omega) | omega)) only [zLit, zI_div, hI_fs, hI_us, zI_add, zI_sub, zI_mul, zI_neg, zI_lt, zI_eq, zI_ite, xbd_s, zI_nat, zld, zst, zbd, zB_0, zB_1, lenX_s, zup_at, xgd, cond_true, cond_false, and_self, and_true, true_and, false_and, and_false, or_self, or_false, false_or, if_true, if_false, ite_true, ite_false, reduceIte, reduceCtorEq, Nat.reduceEqDiff, Nat.reduceAdd, Nat.reduceMul, Int.reduceNeg, Int.reduceAdd, Int.reduceSub, Int.reduceMul, Int.reduceLT, Int.reduceLE, Int.reduceEq, Int.reduceDiv, Int.reduceMod, Int.reduceToNat, Int.toNat_zero, Int.toNat_one, Nat.reduceLeDiff, Nat.reduceLT, ite_not, not_true, not_false_eq_true, m_cells, m_within]
  simp only [zB_z]
  grind
theorem m_isAct (d : Nat) {a : Int} (ha : zR a) (h : xH) : cM (d + 2) 158 [xI (zI a)] h = some (zB (0 ≤ a ∧ a ≤ 8), h) := by
  rw [e_X12_isAct]
  simp (maxSteps := 3000000) (disch := (first | exact hz _ _ | exact hv _ | exact hL | assumption | (simp (disch := decide) only [zup_ne]; exact hL) | (simp only [zR]; omega) | omega)) only [zLit, zI_div, hI_fs, hI_us, zI_add, zI_sub, zI_mul, zI_neg, zI_lt, zI_eq, zI_ite, xbd_s, zI_nat, zld, zst, zbd, zB_0, zB_1, lenX_s, zup_at, xgd, cond_true, cond_false, and_self, and_true, true_and, false_and, and_false, or_self, or_false, false_or, if_true, if_false, ite_true, ite_false, reduceIte, reduceCtorEq, Nat.reduceEqDiff, Nat.reduceAdd, Nat.reduceMul, Int.reduceNeg, Int.reduceAdd, Int.reduceSub, Int.reduceMul, Int.reduceLT, Int.reduceLE, Int.reduceEq, Int.reduceDiv, Int.reduceMod, Int.reduceToNat, Int.toNat_zero, Int.toNat_one, Nat.reduceLeDiff, Nat.reduceLT, ite_not, not_true, not_false_eq_true, m_within]
theorem m_turned (d : Nat) {hd a : Int} (h1 : 0 ≤ hd ∧ hd ≤ 3) (h2 : 0 ≤ a ∧ a ≤ 8) (h : xH) : cM (d + 1) 167 [xI (zI hd), xI (zI a)] h = some (zI (spTurn hd a), h) := by
  rw [e_X12_turned]
  simp (maxSteps := 3000000) (disch := (first | exact hz _ _ | exact hv _ | exact hL | assumption | (simp (disch := decide) only [zup_ne]; exact hL) | (simp only [zR]; omega) | omega)) only [zLit, zI_div, hI_fs, hI_us, zI_add, zI_sub, zI_mul, zI_neg, zI_lt, zI_eq, zI_ite, xbd_s, zI_nat, zld, zst, zbd, zB_0, zB_1, lenX_s, zup_at, xgd, cond_true, cond_false, and_self, and_true, true_and, false_and, and_false, or_self, or_false, false_or, if_true, if_false, ite_true, ite_false, reduceIte, reduceCtorEq, Nat.reduceEqDiff, Nat.reduceAdd, Nat.reduceMul, Int.reduceNeg, Int.reduceAdd, Int.reduceSub, Int.reduceMul, Int.reduceLT, Int.reduceLE, Int.reduceEq, Int.reduceDiv, Int.reduceMod, Int.reduceToNat, Int.toNat_zero, Int.toNat_one, Nat.reduceLeDiff, Nat.reduceLT, ite_not, not_true, not_false_eq_true, zI_div, zI_and3]
  unfold spTurn
  congr 3
  omega
theorem m_changed (d : Nat) {sp a : Int} (h1 : 0 ≤ sp ∧ sp ≤ 2) (h2 : 0 ≤ a ∧ a ≤ 8) (h : xH) : cM (d + 1) 168 [xI (zI sp), xI (zI a)] h = some (zI (spPace sp a), h) := by
  rw [e_X12_changed]
  simp (maxSteps := 3000000) (disch := (first | exact hz _ _ | exact hv _ | exact hL | assumption | (simp (disch := decide) only [zup_ne]; exact hL) | (simp only [zR]; omega) | omega)) only [zLit, zI_div, hI_fs, hI_us, zI_add, zI_sub, zI_mul, zI_neg, zI_lt, zI_eq, zI_ite, xbd_s, zI_nat, zld, zst, zbd, zB_0, zB_1, lenX_s, zup_at, xgd, cond_true, cond_false, and_self, and_true, true_and, false_and, and_false, or_self, or_false, false_or, if_true, if_false, ite_true, ite_false, reduceIte, reduceCtorEq, Nat.reduceEqDiff, Nat.reduceAdd, Nat.reduceMul, Int.reduceNeg, Int.reduceAdd, Int.reduceSub, Int.reduceMul, Int.reduceLT, Int.reduceLE, Int.reduceEq, Int.reduceDiv, Int.reduceMod, Int.reduceToNat, Int.toNat_zero, Int.toNat_one, Nat.reduceLeDiff, Nat.reduceLT, ite_not, not_true, not_false_eq_true]
  unfold spPace
  congr 3
  omega
theorem m_isDown (d : Nat) {z : zH} (hz : ∀ o k, zR (z o k)) (hc : 0 ≤ z 100 5 ∧ z 100 5 < 64) : cM (d + 1) 166 [xR 28 100] (hI z) = some (zB (z 100 8 ≤ z 101 (24 + z 100 5)), hI z) := by
  rw [e_X12_isDown]
  simp (maxSteps := 3000000) (disch := (first | exact hz _ _ | exact hv _ | exact hL | assumption | (simp (disch := decide) only [zup_ne]; exact hL) | (simp only [zR]; omega) | omega)) only [zLit, zI_div, hI_fs, hI_us, zI_add, zI_sub, zI_mul, zI_neg, zI_lt, zI_eq, zI_ite, xbd_s, zI_nat, zld, zst, zbd, zB_0, zB_1, lenX_s, zup_at, xgd, cond_true, cond_false, and_self, and_true, true_and, false_and, and_false, or_self, or_false, false_or, if_true, if_false, ite_true, ite_false, reduceIte, reduceCtorEq, Nat.reduceEqDiff, Nat.reduceAdd, Nat.reduceMul, Int.reduceNeg, Int.reduceAdd, Int.reduceSub, Int.reduceMul, Int.reduceLT, Int.reduceLE, Int.reduceEq, Int.reduceDiv, Int.reduceMod, Int.reduceToNat, Int.toNat_zero, Int.toNat_one, Nat.reduceLeDiff, Nat.reduceLT, ite_not, not_true, not_false_eq_true]
  simp only [zB_z]
  grind
/-! the class's -/
def LandR (z : zH) (v : Int → Int) : Prop := z 2 0 = v 0 ∧ z 2 1 = v 1 ∧ (∀ c, 0 ≤ c → c < 64 → z 3 c = v (24 + c)) ∧ (∀ c, 0 ≤ c → c < 64 → z 4 c = v (88 + c)) ∧ (∀ k, 0 ≤ k → k < 9 → z 5 k = v (15 + k))
theorem c_within (d : Nat) {a b c : Int} (ha : zR a) (hb : zR b) (hc : zR c) (h : xH) : cM (d + 1) 150 [xI (zI a), xI (zI b), xI (zI c)] h = some (zB (b ≤ a ∧ a ≤ c), h) := by
  rw [e_X11_isWithin]
  simp (maxSteps := 3000000) (disch := (first | exact hz _ _ | exact hv _ | exact hL | assumption | (simp (disch := decide) only [zup_ne]; exact hL) | (simp only [zR]; omega) | omega)) only [zLit, zI_div, hI_fs, hI_us, zI_add, zI_sub, zI_mul, zI_neg, zI_lt, zI_eq, zI_ite, xbd_s, zI_nat, zld, zst, zbd, zB_0, zB_1, lenX_s, zup_at, xgd, cond_true, cond_false, and_self, and_true, true_and, false_and, and_false, or_self, or_false, false_or, if_true, if_false, ite_true, ite_false, reduceIte, reduceCtorEq, Nat.reduceEqDiff, Nat.reduceAdd, Nat.reduceMul, Int.reduceNeg, Int.reduceAdd, Int.reduceSub, Int.reduceMul, Int.reduceLT, Int.reduceLE, Int.reduceEq, Int.reduceDiv, Int.reduceMod, Int.reduceToNat, Int.toNat_zero, Int.toNat_one, Nat.reduceLeDiff, Nat.reduceLT, ite_not, not_true, not_false_eq_true]
  simp only [zB_z]
  grind
theorem c_landCells (d : Nat) {z : zH} {v : Int → Int} (hR : LandR z v) : cM (d + 1) 31 [xR 21 2] (hI z) = some (zI (v 0 * v 1), hI z) := by
  rw [e_X5_cells]
  simp (maxSteps := 3000000) (disch := (first | exact hz _ _ | exact hv _ | exact hL | assumption | (simp (disch := decide) only [zup_ne]; exact hL) | (simp only [zR]; omega) | omega)) only [zLit, zI_div, hI_fs, hI_us, zI_add, zI_sub, zI_mul, zI_neg, zI_lt, zI_eq, zI_ite, xbd_s, zI_nat, zld, zst, zbd, zB_0, zB_1, lenX_s, zup_at, xgd, cond_true, cond_false, and_self, and_true, true_and, false_and, and_false, or_self, or_false, false_or, if_true, if_false, ite_true, ite_false, reduceIte, reduceCtorEq, Nat.reduceEqDiff, Nat.reduceAdd, Nat.reduceMul, Int.reduceNeg, Int.reduceAdd, Int.reduceSub, Int.reduceMul, Int.reduceLT, Int.reduceLE, Int.reduceEq, Int.reduceDiv, Int.reduceMod, Int.reduceToNat, Int.toNat_zero, Int.toNat_one, Nat.reduceLeDiff, Nat.reduceLT, ite_not, not_true, not_false_eq_true, hR.1, hR.2.1]
theorem c_landHas (d : Nat) {z : zH} {v : Int → Int} (hR : LandR z v) (hL : LandI v) {c : Int} (hc : zR c) : cM (d + 1) 32 [xR 21 2, xI (zI c)] (hI z) = some (zB (0 ≤ c ∧ c < v 0 * v 1), hI z) := by
  have ha := area hL.1 hL.2.1
  rw [e_X5_has]
  simp (maxSteps := 3000000) (disch := (first | exact hz _ _ | exact hv _ | exact hL | assumption | (simp (disch := decide) only [zup_ne]; exact hL) | (simp only [zR]; omega) | omega)) only [zLit, zI_div, hI_fs, hI_us, zI_add, zI_sub, zI_mul, zI_neg, zI_lt, zI_eq, zI_ite, xbd_s, zI_nat, zld, zst, zbd, zB_0, zB_1, lenX_s, zup_at, xgd, cond_true, cond_false, and_self, and_true, true_and, false_and, and_false, or_self, or_false, false_or, if_true, if_false, ite_true, ite_false, reduceIte, reduceCtorEq, Nat.reduceEqDiff, Nat.reduceAdd, Nat.reduceMul, Int.reduceNeg, Int.reduceAdd, Int.reduceSub, Int.reduceMul, Int.reduceLT, Int.reduceLE, Int.reduceEq, Int.reduceDiv, Int.reduceMod, Int.reduceToNat, Int.toNat_zero, Int.toNat_one, Nat.reduceLeDiff, Nat.reduceLT, ite_not, not_true, not_false_eq_true, hR.1, hR.2.1]
  simp only [zB_z]
  grind
theorem c_ground (d : Nat) {z : zH} {v : Int → Int} (hR : LandR z v) {c : Int} (hc : 0 ≤ c ∧ c < 64) : cM (d + 1) 33 [xR 21 2, xI (zI c)] (hI z) = some (zI (v (24 + c)), hI z) := by
  have h1 := hR.2.2.1 c hc.1 hc.2
  rw [e_X5_groundOf]
  simp (maxSteps := 3000000) (disch := (first | exact hz _ _ | exact hv _ | exact hL | assumption | (simp (disch := decide) only [zup_ne]; exact hL) | (simp only [zR]; omega) | omega)) only [zLit, zI_div, hI_fs, hI_us, zI_add, zI_sub, zI_mul, zI_neg, zI_lt, zI_eq, zI_ite, xbd_s, zI_nat, zld, zst, zbd, zB_0, zB_1, lenX_s, zup_at, xgd, cond_true, cond_false, and_self, and_true, true_and, false_and, and_false, or_self, or_false, false_or, if_true, if_false, ite_true, ite_false, reduceIte, reduceCtorEq, Nat.reduceEqDiff, Nat.reduceAdd, Nat.reduceMul, Int.reduceNeg, Int.reduceAdd, Int.reduceSub, Int.reduceMul, Int.reduceLT, Int.reduceLE, Int.reduceEq, Int.reduceDiv, Int.reduceMod, Int.reduceToNat, Int.toNat_zero, Int.toNat_one, Nat.reduceLeDiff, Nat.reduceLT, ite_not, not_true, not_false_eq_true, h1]
  grind
theorem c_houses (d : Nat) {z : zH} {v : Int → Int} (hR : LandR z v) {c : Int} (hc : 0 ≤ c ∧ c < 64) : cM (d + 1) 34 [xR 21 2, xI (zI c)] (hI z) = some (zI (v (88 + c)), hI z) := by
  have h1 := hR.2.2.2.1 c hc.1 hc.2
  rw [e_X5_housesOf]
  simp (maxSteps := 3000000) (disch := (first | exact hz _ _ | exact hv _ | exact hL | assumption | (simp (disch := decide) only [zup_ne]; exact hL) | (simp only [zR]; omega) | omega)) only [zLit, zI_div, hI_fs, hI_us, zI_add, zI_sub, zI_mul, zI_neg, zI_lt, zI_eq, zI_ite, xbd_s, zI_nat, zld, zst, zbd, zB_0, zB_1, lenX_s, zup_at, xgd, cond_true, cond_false, and_self, and_true, true_and, false_and, and_false, or_self, or_false, false_or, if_true, if_false, ite_true, ite_false, reduceIte, reduceCtorEq, Nat.reduceEqDiff, Nat.reduceAdd, Nat.reduceMul, Int.reduceNeg, Int.reduceAdd, Int.reduceSub, Int.reduceMul, Int.reduceLT, Int.reduceLE, Int.reduceEq, Int.reduceDiv, Int.reduceMod, Int.reduceToNat, Int.toNat_zero, Int.toNat_one, Nat.reduceLeDiff, Nat.reduceLT, ite_not, not_true, not_false_eq_true, h1]
  grind
theorem c_tableOf (d : Nat) {z : zH} {v : Int → Int} (hR : LandR z v) {k : Int} (hk : 0 ≤ k ∧ k < 9) : cM (d + 1) 35 [xR 21 2, xI (zI k)] (hI z) = some (zI (v (15 + k)), hI z) := by
  have h1 := hR.2.2.2.2 k hk.1 hk.2
  rw [e_X5_tableOf]
  simp (maxSteps := 3000000) (disch := (first | exact hz _ _ | exact hv _ | exact hL | assumption | (simp (disch := decide) only [zup_ne]; exact hL) | (simp only [zR]; omega) | omega)) only [zLit, zI_div, hI_fs, hI_us, zI_add, zI_sub, zI_mul, zI_neg, zI_lt, zI_eq, zI_ite, xbd_s, zI_nat, zld, zst, zbd, zB_0, zB_1, lenX_s, zup_at, xgd, cond_true, cond_false, and_self, and_true, true_and, false_and, and_false, or_self, or_false, false_or, if_true, if_false, ite_true, ite_false, reduceIte, reduceCtorEq, Nat.reduceEqDiff, Nat.reduceAdd, Nat.reduceMul, Int.reduceNeg, Int.reduceAdd, Int.reduceSub, Int.reduceMul, Int.reduceLT, Int.reduceLE, Int.reduceEq, Int.reduceDiv, Int.reduceMod, Int.reduceToNat, Int.toNat_zero, Int.toNat_one, Nat.reduceLeDiff, Nat.reduceLT, ite_not, not_true, not_false_eq_true, h1]
  grind
theorem c_isDown (d : Nat) {z : zH} (hz : ∀ o k, zR (z o k)) {v : Int → Int} (hR : LandR z v) {o : Nat} (hv : zR (v (24 + z o 0))) (hc : 0 ≤ z o 0 ∧ z o 0 < 64) : cM (d + 2) 38 [xR 21 2, xR 18 o] (hI z) = some (zB (z o 3 ≤ v (24 + z o 0)), hI z) := by
  rw [e_X5_isDown]
  simp (maxSteps := 3000000) (disch := (first | exact hz _ _ | exact hv _ | exact hL | assumption | (simp (disch := decide) only [zup_ne]; exact hL) | (simp only [zR]; omega) | omega)) only [zLit, zI_div, hI_fs, hI_us, zI_add, zI_sub, zI_mul, zI_neg, zI_lt, zI_eq, zI_ite, xbd_s, zI_nat, zld, zst, zbd, zB_0, zB_1, lenX_s, zup_at, xgd, cond_true, cond_false, and_self, and_true, true_and, false_and, and_false, or_self, or_false, false_or, if_true, if_false, ite_true, ite_false, reduceIte, reduceCtorEq, Nat.reduceEqDiff, Nat.reduceAdd, Nat.reduceMul, Int.reduceNeg, Int.reduceAdd, Int.reduceSub, Int.reduceMul, Int.reduceLT, Int.reduceLE, Int.reduceEq, Int.reduceDiv, Int.reduceMod, Int.reduceToNat, Int.toNat_zero, Int.toNat_one, Nat.reduceLeDiff, Nat.reduceLT, ite_not, not_true, not_false_eq_true, c_ground d hR hc]
  simp only [zB_z]
  grind
theorem c_turn (d : Nat) {hd a : Int} (h1 : 0 ≤ hd ∧ hd ≤ 3) (h2 : 0 ≤ a ∧ a ≤ 8) (h : xH) : cM (d + 1) 39 [xI (zI hd), xI (zI a)] h = some (zI (spTurn hd a), h) := by
  rw [e_X5_headingBehind]
  simp (maxSteps := 3000000) (disch := (first | exact hz _ _ | exact hv _ | exact hL | assumption | (simp (disch := decide) only [zup_ne]; exact hL) | (simp only [zR]; omega) | omega)) only [zLit, zI_div, hI_fs, hI_us, zI_add, zI_sub, zI_mul, zI_neg, zI_lt, zI_eq, zI_ite, xbd_s, zI_nat, zld, zst, zbd, zB_0, zB_1, lenX_s, zup_at, xgd, cond_true, cond_false, and_self, and_true, true_and, false_and, and_false, or_self, or_false, false_or, if_true, if_false, ite_true, ite_false, reduceIte, reduceCtorEq, Nat.reduceEqDiff, Nat.reduceAdd, Nat.reduceMul, Int.reduceNeg, Int.reduceAdd, Int.reduceSub, Int.reduceMul, Int.reduceLT, Int.reduceLE, Int.reduceEq, Int.reduceDiv, Int.reduceMod, Int.reduceToNat, Int.toNat_zero, Int.toNat_one, Nat.reduceLeDiff, Nat.reduceLT, ite_not, not_true, not_false_eq_true, zI_div, zI_and3]
  rfl
theorem c_pace (d : Nat) {sp a : Int} (h1 : 0 ≤ sp ∧ sp ≤ 2) (h2 : 0 ≤ a ∧ a ≤ 8) (h : xH) : cM (d + 1) 40 [xI (zI sp), xI (zI a)] h = some (zI (spPace sp a), h) := by
  rw [e_X5_speedBehind]
  simp (maxSteps := 3000000) (disch := (first | exact hz _ _ | exact hv _ | exact hL | assumption | (simp (disch := decide) only [zup_ne]; exact hL) | (simp only [zR]; omega) | omega)) only [zLit, zI_div, hI_fs, hI_us, zI_add, zI_sub, zI_mul, zI_neg, zI_lt, zI_eq, zI_ite, xbd_s, zI_nat, zld, zst, zbd, zB_0, zB_1, lenX_s, zup_at, xgd, cond_true, cond_false, and_self, and_true, true_and, false_and, and_false, or_self, or_false, false_or, if_true, if_false, ite_true, ite_false, reduceIte, reduceCtorEq, Nat.reduceEqDiff, Nat.reduceAdd, Nat.reduceMul, Int.reduceNeg, Int.reduceAdd, Int.reduceSub, Int.reduceMul, Int.reduceLT, Int.reduceLE, Int.reduceEq, Int.reduceDiv, Int.reduceMod, Int.reduceToNat, Int.toNat_zero, Int.toNat_one, Nat.reduceLeDiff, Nat.reduceLT, ite_not, not_true, not_false_eq_true]
  unfold spPace
  congr 3
  omega
theorem kcX_e : kcX 0 0 = zI 0 ∧ kcX 0 1 = zI 1 ∧ kcX 0 2 = zI 0 ∧ kcX 0 3 = zI (-1) ∧ kcX 1 0 = zI (-1) ∧ kcX 1 1 = zI 0 ∧ kcX 1 2 = zI 1 ∧ kcX 1 3 = zI 0 ∧ klX 0 = 4 ∧ klX 1 = 4 := by
  (repeat' apply And.intro) <;> decide +kernel
