/-! PURE, part 6: rows; a copy -/
theorem mul_b {i w k n : Int} (hi : 0 ≤ i ∧ i < n) (hk : 0 ≤ k ∧ k < w) : 0 ≤ i * w + k ∧ i * w + k < n * w := by
  have h1 : 0 ≤ i * w := Int.mul_nonneg hi.1 (by omega)
  have h2 : (i + 1) * w ≤ n * w := Int.mul_le_mul_of_nonneg_right (by omega) (by omega)
  have h3 : (i + 1) * w = i * w + w := by rw [Int.add_mul]; omega
  omega
theorem c_rHas (d : Nat) {z : zH} (hz : zRR z) {o : Nat} {i : Int} (hi : zR i) : cM (d + 1) 55 [xR 23 o, xI (zI i)] (hI z) = some (zB (0 ≤ i ∧ i < z o 3), hI z) := by
  rw [e_X7_has]
  simp (maxSteps := 3000000) (disch := (first | exact hz _ _ | exact hv _ | exact hL | assumption | (simp (disch := decide) only [zup_ne]; exact hL) | (simp only [zR]; omega) | omega)) only [zLit, zI_div, hI_fs, hI_us, zI_add, zI_sub, zI_mul, zI_neg, zI_lt, zI_eq, zI_ite, xbd_s, zI_nat, zld, zst, zbd, zB_0, zB_1, lenX_s, zup_at, xgd, cond_true, cond_false, and_self, and_true, true_and, false_and, and_false, or_self, or_false, false_or, if_true, if_false, ite_true, ite_false, reduceIte, reduceCtorEq, Nat.reduceEqDiff, Nat.reduceAdd, Nat.reduceMul, Int.reduceNeg, Int.reduceAdd, Int.reduceSub, Int.reduceMul, Int.reduceLT, Int.reduceLE, Int.reduceEq, Int.reduceDiv, Int.reduceMod, Int.reduceToNat, Int.toNat_zero, Int.toNat_one, Nat.reduceLeDiff, Nat.reduceLT, ite_not, not_true, not_false_eq_true]
  simp only [zB_z]
  grind
theorem c_rOpened (d : Nat) {z : zH} (hz : zRR z) {o : Nat} (h1 : 0 ≤ z o 3 ∧ z o 3 < z o 0) : cM (d + 1) 56 [xR 23 o] (hI z) = some (zI (z o 3), hI (zup z o 3 (z o 3 + 1))) := by
  rw [e_X7_opened]
  simp only [zLit, hI_fs, hI_us, zI_add, zI_sub, zI_lt (hz o 3) (hz o 0), if_pos h1.2, zup_at, and_self, if_true, Int.add_sub_cancel]
theorem c_rFull (d : Nat) {z : zH} (hz : zRR z) {o : Nat} (h1 : z o 0 ≤ z o 3) : cM (d + 1) 56 [xR 23 o] (hI z) = some (zI (-2), hI z) := by
  rw [e_X7_opened]
  simp only [zLit, hI_fs, hI_us, zI_add, zI_sub, zI_neg, zI_lt (hz o 3) (hz o 0), if_neg (show ¬ z o 3 < z o 0 by omega)]
theorem c_rNumber (d : Nat) {z : zH} (hz : zRR z) {o : Nat} {i k w n : Int} (hw : z o 1 = w) (hi : 0 ≤ i ∧ i < z o 3) (hn : z o 3 ≤ n) (hk : 0 ≤ k ∧ k < w) (hl : n * w ≤ (lenX (o + 1) : Int)) (hs : n * w < 2147483648) : cM (d + 2) 57 [xR 23 o, xI (zI i), xI (zI k)] (hI z) = some (zI (z (o + 1) (i * w + k)), hI z) := by
  have hb := mul_b (n := n) (w := w) ⟨hi.1, by omega⟩ hk
  have hi2 : zR i := by have := hz o 3; simp only [zR] at *; omega
  have hk2 : zR k := by have := hz o 1; simp only [zR] at *; omega
  have hp : zR (i * w + k) := by simp only [zR]; omega
  have h0 : zR 0 := by simp only [zR]; omega
  rw [e_X7_number]
  simp only [zLit, hI_fs, hw, zI_add, zI_mul, c_rHas _ hz hi2, xbd_s, zB_0, zI_lt hk2 (hw ▸ hz o 1), zI_lt hk2 h0, zI_lt hp h0, zI_nat hp, zld hb.1]
  rw [if_neg (by omega), if_neg (by omega), if_pos (by omega), if_neg (by omega)]
theorem c_rNone (d : Nat) {z : zH} (hz : zRR z) {o : Nat} {i : Int} {k : Int32} (hi2 : zR i) (hi : ¬ (0 ≤ i ∧ i < z o 3)) : cM (d + 2) 57 [xR 23 o, xI (zI i), xI k] (hI z) = some (zI 0, hI z) := by
  rw [e_X7_number]
  simp only [zLit, c_rHas _ hz hi2, xbd_s, zB_0]
  rw [if_pos hi]
theorem c_rBecome (d : Nat) {z : zH} (hz : zRR z) {o : Nat} {i k w n u : Int} (hw : z o 1 = w) (hi : 0 ≤ i ∧ i < z o 3) (hn : z o 3 ≤ n) (hk : 0 ≤ k ∧ k < w) (hl : n * w ≤ (lenX (o + 1) : Int)) (hs : n * w < 2147483648) : cM (d + 2) 58 [xR 23 o, xI (zI i), xI (zI k), xI (zI u)] (hI z) = some (zI 0, hI (zup z (o + 1) (i * w + k) u)) := by
  have hb := mul_b (n := n) (w := w) ⟨hi.1, by omega⟩ hk
  have hi2 : zR i := by have := hz o 3; simp only [zR] at *; omega
  have hk2 : zR k := by have := hz o 1; simp only [zR] at *; omega
  have hp : zR (i * w + k) := by simp only [zR]; omega
  have h0 : zR 0 := by simp only [zR]; omega
  rw [e_X7_become]
  simp only [zLit, hI_fs, hw, zI_add, zI_mul, c_rHas _ hz hi2, xbd_s, zB_0, zI_lt hk2 (hw ▸ hz o 1), zI_lt hk2 h0, zI_lt hp h0, zI_nat hp, zst hb.1]
  rw [if_neg (by omega), if_neg (by omega), if_pos (by omega), if_neg (by omega)]
theorem c_rNot (d : Nat) {z : zH} (hz : zRR z) {o : Nat} {i : Int} {k u : Int32} (hi2 : zR i) (hi : ¬ (0 ≤ i ∧ i < z o 3)) : cM (d + 2) 58 [xR 23 o, xI (zI i), xI k, xI u] (hI z) = some (zI 0, hI z) := by
  rw [e_X7_become]
  simp only [zLit, c_rHas _ hz hi2, xbd_s, zB_0]
  rw [if_pos hi]
/-- a row copied upon another -/
def zcp (z : zH) (a b : Nat) (n : Int) : zH := fun p q => if p = b ∧ 0 ≤ q ∧ q < n then z a q else z p q
theorem zcp_I (z : zH) (a b n : Nat) : xcp (hI z) a 0 b 0 n = hI (zcp z a b n) := by
  funext p q
  unfold xcp hI zcp
  by_cases h : p = b ∧ (q : Int) < n
  · rw [if_pos ⟨h.1, by omega, by omega⟩, if_pos ⟨h.1, by omega, by omega⟩, Nat.zero_add, Nat.sub_zero]
  · rw [if_neg (fun e => h ⟨e.1, by omega⟩), if_neg (fun e => h ⟨e.1, by omega⟩)]
theorem zcp_ne (z : zH) {a b p : Nat} (n : Int) (h : p ≠ b) : zcp z a b n p = z p := by
  funext q
  unfold zcp
  rw [if_neg (fun e => h e.1)]
theorem zcp_at (z : zH) {a b : Nat} {n k : Int} (h : 0 ≤ k ∧ k < n) : zcp z a b n b k = z a k := by
  unfold zcp
  rw [if_pos ⟨rfl, h⟩]
theorem zRR_cp {z : zH} (hz : zRR z) (a b : Nat) (n : Int) : zRR (zcp z a b n) := by
  intro p q
  unfold zcp
  split <;> exact hz _ _
theorem fr_cp {S : List Nat} {z z' : zH} (h : fr S z z') (a : Nat) {b : Nat} (n : Int) (e : S.elem b = true) : fr S z (zcp z' a b n) := by
  intro p q
  have hne : p ≠ b := by intro x; rw [x, e] at q; cases q
  rw [zcp_ne z' n hne]
  exact h p q
theorem ff_cp {F : List Int} {z z' : zH} (h : ff F z z') (a : Nat) {b : Nat} (n : Int) (e : b ≠ 100) : ff F z (zcp z' a b n) := by
  intro k q
  rw [zcp_ne z' n (fun w => e w.symm)]
  exact h k q
theorem c_rCopy (d : Nat) {z : zH} {o1 o2 n : Nat} (h1 : lenX (o1 + 1) = n) (h2 : lenX (o2 + 1) = n) (hn : n < 2147483648) (ho : o2 ≠ o1 + 1) : cM (d + 1) 61 [xR 23 o1, xR 23 o2] (hI z) = some (zI 0, hI (zup (zcp z (o2 + 1) (o1 + 1) n) o1 3 (z o2 3))) := by
  have hp : zR (n : Int) := by simp only [zR]; omega
  have h0 : zR 0 := by simp only [zR]; omega
  rw [e_X7_become_, h1, h2]
  simp only [zLit, zI_nI, zI_nat hp, zI_nat h0, zI_lt hp h0, zI_lt h0 h0, if_true, Int.toNat_zero, Int.toNat_natCast, zcp_I, hI_fs, hI_us]
  rw [if_neg (by omega), zcp_ne z _ ho]
