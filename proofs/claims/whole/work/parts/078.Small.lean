/-! PURE, part 8: small things of both: fill, sheets, ends -/
def zfl (z : zH) (o : Nat) (v n : Int) : zH := fun p q => if p = o ∧ 0 ≤ q ∧ q < n then v else z p q
theorem zfl_ne (z : zH) {o p : Nat} (v n : Int) (h : p ≠ o) : zfl z o v n p = z p := by
  funext q
  unfold zfl
  rw [if_neg (fun e => h e.1)]
theorem zfl_at (z : zH) {o : Nat} {v n k : Int} (h : 0 ≤ k ∧ k < n) : zfl z o v n o k = v := by
  unfold zfl
  rw [if_pos ⟨rfl, h⟩]
theorem zRR_fl {z : zH} (hz : zRR z) (o : Nat) {v : Int} (n : Int) (hv : zR v) : zRR (zfl z o v n) := by
  intro p q
  unfold zfl
  split
  · exact hv
  · exact hz _ _
theorem fr_fl {S : List Nat} {z z' : zH} (h : fr S z z') {o : Nat} (v n : Int) (e : S.elem o = true) : fr S z (zfl z' o v n) := by
  intro p q
  have hne : p ≠ o := by intro x; rw [x, e] at q; cases q
  rw [zfl_ne z' v n hne]
  exact h p q
theorem zfl_up (z : zH) (o : Nat) (v : Int) {n : Int} (h : 0 ≤ n) : zup (zfl z o v n) o n v = zfl z o v (n + 1) := by
  funext p q
  unfold zup zfl
  by_cases h1 : p = o ∧ q = n
  · rw [if_pos h1, if_pos ⟨h1.1, by omega, by omega⟩]
  · rw [if_neg h1]
    by_cases h2 : p = o ∧ 0 ≤ q ∧ q < n
    · rw [if_pos h2, if_pos ⟨h2.1, by omega, by omega⟩]
    · rw [if_neg h2, if_neg (fun w => by
        by_cases hq : q = n
        · exact h1 ⟨w.1, hq⟩
        · exact h2 ⟨w.1, w.2.1, by omega⟩)]
theorem zfl_0 (z : zH) (o : Nat) (v : Int) : zfl z o v 0 = z := by
  funext p q
  unfold zfl
  rw [if_neg (by omega)]
theorem c_fill_l (d : Nat) {z : zH} {o : Nat} {v : Int} (hl : (lenX o : Int) < 100000) : ∀ (m : Nat) (k : Int), 0 ≤ k → k + m = (lenX o : Int) → ∀ n, m < n → r_J7_fill_53178 d n 5 [some (xR 1 o), some (xI (zI v)), some (xI (zI k)), some (xI (zI (lenX o : Int)))] [] (hI (zfl z o v k)) = some (zI 0, hI (zfl z o v (lenX o))) := by
  intro m
  induction m with
  | zero =>
    intro k h0 h1 n hn
    obtain ⟨n, rfl⟩ := Nat.exists_eq_succ_of_ne_zero (show n ≠ 0 by omega)
    have e : k = (lenX o : Int) := by omega
    subst e
    have hr : zR (lenX o : Int) := by simp only [zR]; omega
    rw [l_J7_fill_53178_5, if_neg (fun w => by rw [zI_lt hr hr] at w; omega)]
    rfl
  | succ m ih =>
    intro k h0 h1 n hn
    obtain ⟨n, rfl⟩ := Nat.exists_eq_succ_of_ne_zero (show n ≠ 0 by omega)
    have hr : zR (lenX o : Int) := by simp only [zR]; omega
    have hk : zR k := by simp only [zR]; omega
    have hh : zR 0 := by simp only [zR]; omega
    rw [l_J7_fill_53178_5]
    simp only [zLit, zI_lt hk hr, zI_lt hk hh, zI_nat hk, zst h0, zI_add, zfl_up z o v h0]
    rw [if_pos (by omega), if_neg (by omega)]
    exact ih (k + 1) (by omega) (by omega) n (by omega)
theorem c_fill (d : Nat) {z : zH} {o : Nat} {v : Int} {L : Nat} (hL : lenX o = L) (hl : L < 100000) : cM (d + 1) 268 [xR 1 o, xI (zI v)] (hI z) = some (zI 0, hI (zfl z o v L)) := by
  rw [e_J7_fill_53178, show xF = 999999 + 1 from rfl, l_J7_fill_53178_0]
  have h := c_fill_l d (z := z) (o := o) (v := v) (by omega) L 0 (by omega) (by omega) 999999 (by omega)
  rw [hL] at h
  rw [zfl_0] at h
  simp only [zLit, zI_nI, hL]
  exact h
/-! sheets of the class -/
theorem c_sHas (d : Nat) {z : zH} (hz : zRR z) {o : Nat} {i : Int} (hi : zR i) (hc : z o 1 ≤ 64) : cM (d + 1) 63 [xR 24 o, xI (zI i)] (hI z) = some (zB (0 ≤ i ∧ i < z o 1), hI z) := by
  rw [e_X8_has]
  simp (maxSteps := 3000000) (disch := (first | exact hz _ _ | exact hv _ | exact hL | assumption | (simp (disch := decide) only [zup_ne]; exact hL) | (simp only [zR]; omega) | omega)) only [zLit, zI_div, hI_fs, hI_us, zI_add, zI_sub, zI_mul, zI_neg, zI_lt, zI_eq, zI_ite, xbd_s, zI_nat, zld, zst, zbd, zB_0, zB_1, lenX_s, zup_at, xgd, cond_true, cond_false, and_self, and_true, true_and, false_and, and_false, or_self, or_false, false_or, if_true, if_false, ite_true, ite_false, reduceIte, reduceCtorEq, Nat.reduceEqDiff, Nat.reduceAdd, Nat.reduceMul, Int.reduceNeg, Int.reduceAdd, Int.reduceSub, Int.reduceMul, Int.reduceLT, Int.reduceLE, Int.reduceEq, Int.reduceDiv, Int.reduceMod, Int.reduceToNat, Int.toNat_zero, Int.toNat_one, Nat.reduceLeDiff, Nat.reduceLT, ite_not, not_true, not_false_eq_true]
  simp only [zB_z]
  grind
theorem c_sNumber (d : Nat) {z : zH} (hz : zRR z) {o : Nat} {i : Int} (hi : 0 ≤ i ∧ i < z o 1) (hc : z o 1 ≤ 64) (hl : lenX (o + 1) = 64) : cM (d + 2) 64 [xR 24 o, xI (zI i)] (hI z) = some (zI (z (o + 1) i), hI z) := by
  have hi2 : zR i := by simp only [zR]; omega
  have h0 : zR 0 := by simp only [zR]; omega
  rw [e_X8_number]
  simp only [zLit, c_sHas _ hz hi2 hc, xbd_s, zB_0, hl, zI_lt hi2 h0, zI_nat hi2, zld hi.1]
  rw [if_neg (by omega), if_neg (by omega)]
theorem c_sRefusal (d : Nat) {z : zH} (hz : zRR z) {o : Nat} {s : Int} (hs : zR s) : cM (d + 1) 66 [xR 24 o, xI (zI s)] (hI z) = some (zI (if z o 0 = -1 then -11 else if z o 0 = s then 0 else -13), hI z) := by
  rw [e_X8_refusal]
  simp (maxSteps := 3000000) (disch := (first | exact hz _ _ | exact hv _ | exact hL | assumption | (simp (disch := decide) only [zup_ne]; exact hL) | (simp only [zR]; omega) | omega)) only [zLit, zI_div, hI_fs, hI_us, zI_add, zI_sub, zI_mul, zI_neg, zI_lt, zI_eq, zI_ite, xbd_s, zI_nat, zld, zst, zbd, zB_0, zB_1, lenX_s, zup_at, xgd, cond_true, cond_false, and_self, and_true, true_and, false_and, and_false, or_self, or_false, false_or, if_true, if_false, ite_true, ite_false, reduceIte, reduceCtorEq, Nat.reduceEqDiff, Nat.reduceAdd, Nat.reduceMul, Int.reduceNeg, Int.reduceAdd, Int.reduceSub, Int.reduceMul, Int.reduceLT, Int.reduceLE, Int.reduceEq, Int.reduceDiv, Int.reduceMod, Int.reduceToNat, Int.toNat_zero, Int.toNat_one, Nat.reduceLeDiff, Nat.reduceLT, ite_not, not_true, not_false_eq_true]
  grind
theorem c_sRenew (d : Nat) {z : zH} {o : Nat} {s n : Int} (hl : lenX (o + 1) = 64) : cM (d + 2) 62 [xR 24 o, xI (zI s), xI (zI n)] (hI z) = some (zI 0, hI (zfl (zup (zup z o 0 s) o 1 n) (o + 1) 0 64)) := by
  rw [e_X8_renew]
  simp only [hI_us]
  rw [show (0 : Int32) = zI 0 from rfl, c_fill d hl (by omega)]
  rfl
theorem sh_len {s : Int} (h : 0 ≤ s ∧ s < 4) : lenX (73 + 2 * s.toNat + 1) = 64 := by
  have q : s = 0 ∨ s = 1 ∨ s = 2 ∨ s = 3 := by omega
  rcases q with e | e | e | e <;> subst e <;> rfl
theorem c_isSheet (d : Nat) {s : Int} (hs : zR s) (h : xH) : cM (d + 1) 151 [xR 27 0, xI (zI s)] h = some (zB (0 ≤ s ∧ s ≤ 3), h) := by
  rw [e_X11_isSheet]
  simp (maxSteps := 3000000) (disch := (first | exact hz _ _ | exact hv _ | exact hL | assumption | (simp (disch := decide) only [zup_ne]; exact hL) | (simp only [zR]; omega) | omega)) only [zLit, zI_div, hI_fs, hI_us, zI_add, zI_sub, zI_mul, zI_neg, zI_lt, zI_eq, zI_ite, xbd_s, zI_nat, zld, zst, zbd, zB_0, zB_1, lenX_s, zup_at, xgd, cond_true, cond_false, and_self, and_true, true_and, false_and, and_false, or_self, or_false, false_or, if_true, if_false, ite_true, ite_false, reduceIte, reduceCtorEq, Nat.reduceEqDiff, Nat.reduceAdd, Nat.reduceMul, Int.reduceNeg, Int.reduceAdd, Int.reduceSub, Int.reduceMul, Int.reduceLT, Int.reduceLE, Int.reduceEq, Int.reduceDiv, Int.reduceMod, Int.reduceToNat, Int.toNat_zero, Int.toNat_one, Nat.reduceLeDiff, Nat.reduceLT, ite_not, not_true, not_false_eq_true]
  simp only [zB_z]
  grind
theorem c_sAll_l (d : Nat) {z : zH} (hz : zRR z) {o : Nat} {a b : Int} (ha : zR a) (hb : zR b) (hc : 0 ≤ z o 1 ∧ z o 1 ≤ 64) (hl : lenX (o + 1) = 64) : ∀ (m : Nat) (k : Int), 0 ≤ k → k + m = z o 1 → ∀ n, m < n → r_X8_isAllWithin (d + 2) n 2 [some (xR 24 o), some (xI (zI a)), some (xI (zI b)), some (xI (zI k))] [] (hI z) = some (zI (if ∀ i : Nat, i < m → a ≤ z (o + 1) (k + i) ∧ z (o + 1) (k + i) ≤ b then 1 else 0), hI z) := by
  intro m
  induction m with
  | zero =>
    intro k h0 h1 n hn
    obtain ⟨n, rfl⟩ := Nat.exists_eq_succ_of_ne_zero (show n ≠ 0 by omega)
    have hk : zR k := by simp only [zR]; omega
    rw [l_X8_isAllWithin_2]
    simp only [zLit, hI_fs, zI_lt hk (hz o 1)]
    rw [if_neg (by omega), if_pos (fun i hi => by omega)]
  | succ m ih =>
    intro k h0 h1 n hn
    obtain ⟨n, rfl⟩ := Nat.exists_eq_succ_of_ne_zero (show n ≠ 0 by omega)
    have hk : zR k := by simp only [zR]; omega
    rw [l_X8_isAllWithin_2]
    simp only [zLit, hI_fs, zI_lt hk (hz o 1), c_sNumber _ hz (show 0 ≤ k ∧ k < z o 1 by omega) hc.2 hl, xbd_s, c_within _ (hz (o + 1) k) ha hb, zB_0, zI_add]
    rw [if_pos (by omega), if_pos (by rw [zI_lt hk (by simp only [zR]; omega)]; omega)]
    by_cases q : a ≤ z (o + 1) k ∧ z (o + 1) k ≤ b
    · rw [if_neg (fun w => w q), ih (k + 1) (by omega) (by omega) n (by omega)]
      have e : (∀ i : Nat, i < m → a ≤ z (o + 1) (k + 1 + i) ∧ z (o + 1) (k + 1 + i) ≤ b) ↔ (∀ i : Nat, i < m + 1 → a ≤ z (o + 1) (k + i) ∧ z (o + 1) (k + i) ≤ b) := by
        constructor
        · intro w i hi
          cases i with
          | zero => rw [show k + ((0 : Nat) : Int) = k by omega]; exact q
          | succ i => have := w i (by omega); rw [show k + ((i + 1 : Nat) : Int) = k + 1 + i by omega]; exact this
        · intro w i hi
          have := w (i + 1) (by omega)
          rw [show k + ((i + 1 : Nat) : Int) = k + 1 + i by omega] at this
          exact this
      simp only [e]
    · rw [if_pos q, if_neg (fun w => q (by have := w 0 (by omega); rw [show k + ((0 : Nat) : Int) = k by omega] at this; exact this))]
theorem c_sAll (d : Nat) {z : zH} (hz : zRR z) {o : Nat} {a b : Int} (ha : zR a) (hb : zR b) (hc : 0 ≤ z o 1 ∧ z o 1 ≤ 64) (hl : lenX (o + 1) = 64) : cM (d + 3) 67 [xR 24 o, xI (zI a), xI (zI b)] (hI z) = some (zI (if ∀ i : Nat, i < (z o 1).toNat → a ≤ z (o + 1) i ∧ z (o + 1) i ≤ b then 1 else 0), hI z) := by
  rw [e_X8_isAllWithin, show xF = 999999 + 1 from rfl, l_X8_isAllWithin_0]
  have h := c_sAll_l d hz ha hb hc hl (z o 1).toNat 0 (by omega) (by omega) 999999 (by omega)
  simp only [Int.zero_add] at h
  simp only [zLit]
  exact h
/-! ends -/
theorem m_end (d : Nat) {z : zH} {e f : Int} (h0 : 0 ≤ 152 + 5 * e + f) (h1 : 152 + 5 * e + f < 572) : cM (d + 1) 172 [xR 28 100, xI (zI e), xI (zI f)] (hI z) = some (zI (z 101 (152 + 5 * e + f)), hI z) := by
  rw [e_X12_end]
  simp (maxSteps := 3000000) (disch := (first | exact hz _ _ | exact hv _ | exact hL | assumption | (simp (disch := decide) only [zup_ne]; exact hL) | (simp only [zR]; omega) | omega)) only [zLit, zI_div, hI_fs, hI_us, zI_add, zI_sub, zI_mul, zI_neg, zI_lt, zI_eq, zI_ite, xbd_s, zI_nat, zld, zst, zbd, zB_0, zB_1, lenX_s, zup_at, xgd, cond_true, cond_false, and_self, and_true, true_and, false_and, and_false, or_self, or_false, false_or, if_true, if_false, ite_true, ite_false, reduceIte, reduceCtorEq, Nat.reduceEqDiff, Nat.reduceAdd, Nat.reduceMul, Int.reduceNeg, Int.reduceAdd, Int.reduceSub, Int.reduceMul, Int.reduceLT, Int.reduceLE, Int.reduceEq, Int.reduceDiv, Int.reduceMod, Int.reduceToNat, Int.toNat_zero, Int.toNat_one, Nat.reduceLeDiff, Nat.reduceLT, ite_not, not_true, not_false_eq_true]
abbrev goodS (v : Int → Int) (e s : Int) : Prop := v (154 + 5 * e) ≤ s ∧ s ≤ v (155 + 5 * e)
abbrev goodE (v : Int → Int) (e c s : Int) : Prop := v (153 + 5 * e) = c ∧ goodS v e s
theorem m_isGood (d : Nat) {z : zH} (hz : zRR z) {e s : Int} (h0 : 0 ≤ e ∧ e < 8) (hs : zR s) : cM (d + 2) 173 [xR 28 100, xI (zI e), xI (zI s)] (hI z) = some (zB (goodS (z 101) e s), hI z) := by
  have e1 : 152 + 5 * e + 2 = 154 + 5 * e := by omega
  have e2 : 152 + 5 * e + 3 = 155 + 5 * e := by omega
  rw [e_X12_isGood]
  simp (maxSteps := 3000000) (disch := (first | exact hz _ _ | exact hv _ | exact hL | assumption | (simp (disch := decide) only [zup_ne]; exact hL) | (simp only [zR]; omega) | omega)) only [zLit, zI_div, hI_fs, hI_us, zI_add, zI_sub, zI_mul, zI_neg, zI_lt, zI_eq, zI_ite, xbd_s, zI_nat, zld, zst, zbd, zB_0, zB_1, lenX_s, zup_at, xgd, cond_true, cond_false, and_self, and_true, true_and, false_and, and_false, or_self, or_false, false_or, if_true, if_false, ite_true, ite_false, reduceIte, reduceCtorEq, Nat.reduceEqDiff, Nat.reduceAdd, Nat.reduceMul, Int.reduceNeg, Int.reduceAdd, Int.reduceSub, Int.reduceMul, Int.reduceLT, Int.reduceLE, Int.reduceEq, Int.reduceDiv, Int.reduceMod, Int.reduceToNat, Int.toNat_zero, Int.toNat_one, Nat.reduceLeDiff, Nat.reduceLT, ite_not, not_true, not_false_eq_true, m_end, m_within, e1, e2]
def spComes (v : Int → Int) (c s : Int) : Nat → Int → Int
  | 0, _ => -9
  | n + 1, e => if goodE v e c s then e else spComes v c s n (e + 1)
theorem spComes_b (v : Int → Int) (c s : Int) : ∀ (n : Nat) (e : Int), 0 ≤ e → spComes v c s n e = -9 ∨ (e ≤ spComes v c s n e ∧ spComes v c s n e < e + n ∧ goodE v (spComes v c s n e) c s) := by
  intro n
  induction n with
  | zero => intro e h; left; rfl
  | succ n ih =>
    intro e h
    unfold spComes
    by_cases q : goodE v e c s
    · rw [if_pos q]
      right
      exact ⟨by omega, by omega, q⟩
    · rw [if_neg q]
      rcases ih (e + 1) (by omega) with w | w
      · left; exact w
      · right; exact ⟨by omega, by omega, w.2.2⟩
abbrev spComesTo (v : Int → Int) (c s : Int) : Int := spComes v c s (v 7).toNat 0
theorem m_comesTo_l (d : Nat) {z : zH} (hz : zRR z) (h7 : 0 ≤ z 101 7 ∧ z 101 7 ≤ 8) : ∀ (m : Nat) (e : Int), 0 ≤ e → e + m = z 101 7 → ∀ n, m < n → r_X12_comesTo (d + 2) n 2 [some (xR 28 100), some (xI (zI e))] [] (hI z) = some (zI (spComes (z 101) (z 100 5) (z 100 7) m e), hI z) := by
  intro m
  induction m with
  | zero =>
    intro e h0 h1 n hn
    obtain ⟨n, rfl⟩ := Nat.exists_eq_succ_of_ne_zero (show n ≠ 0 by omega)
    rw [l_X12_comesTo_2]
    simp (maxSteps := 3000000) (disch := (first | exact hz _ _ | exact hv _ | exact hL | assumption | (simp (disch := decide) only [zup_ne]; exact hL) | (simp only [zR]; omega) | omega)) only [zLit, zI_div, hI_fs, hI_us, zI_add, zI_sub, zI_mul, zI_neg, zI_lt, zI_eq, zI_ite, xbd_s, zI_nat, zld, zst, zbd, zB_0, zB_1, lenX_s, zup_at, xgd, cond_true, cond_false, and_self, and_true, true_and, false_and, and_false, or_self, or_false, false_or, if_true, if_false, ite_true, ite_false, reduceIte, reduceCtorEq, Nat.reduceEqDiff, Nat.reduceAdd, Nat.reduceMul, Int.reduceNeg, Int.reduceAdd, Int.reduceSub, Int.reduceMul, Int.reduceLT, Int.reduceLE, Int.reduceEq, Int.reduceDiv, Int.reduceMod, Int.reduceToNat, Int.toNat_zero, Int.toNat_one, Nat.reduceLeDiff, Nat.reduceLT, ite_not, not_true, not_false_eq_true]
    rw [if_neg (by omega)]
    rfl
  | succ m ih =>
    intro e h0 h1 n hn
    obtain ⟨n, rfl⟩ := Nat.exists_eq_succ_of_ne_zero (show n ≠ 0 by omega)
    have e1 : 152 + 5 * e + 1 = 153 + 5 * e := by omega
    have hs := hz 100 7
    have hx := ih (e + 1) (by omega) (by omega) n (by omega)
    rw [l_X12_comesTo_2]
    unfold spComes
    simp (maxSteps := 3000000) (disch := (first | exact hz _ _ | exact hv _ | exact hL | assumption | (simp (disch := decide) only [zup_ne]; exact hL) | (simp only [zR]; omega) | omega)) only [zLit, zI_div, hI_fs, hI_us, zI_add, zI_sub, zI_mul, zI_neg, zI_lt, zI_eq, zI_ite, xbd_s, zI_nat, zld, zst, zbd, zB_0, zB_1, lenX_s, zup_at, xgd, cond_true, cond_false, and_self, and_true, true_and, false_and, and_false, or_self, or_false, false_or, if_true, if_false, ite_true, ite_false, reduceIte, reduceCtorEq, Nat.reduceEqDiff, Nat.reduceAdd, Nat.reduceMul, Int.reduceNeg, Int.reduceAdd, Int.reduceSub, Int.reduceMul, Int.reduceLT, Int.reduceLE, Int.reduceEq, Int.reduceDiv, Int.reduceMod, Int.reduceToNat, Int.toNat_zero, Int.toNat_one, Nat.reduceLeDiff, Nat.reduceLT, ite_not, not_true, not_false_eq_true, m_end, m_isGood, e1, hx]
    rw [if_pos (by omega)]
    by_cases q1 : z 101 (153 + 5 * e) = z 100 5 <;> by_cases q2 : goodS (z 101) e (z 100 7) <;> simp only [goodE, q1, if_true, if_false, true_and, false_and, not_true, not_false_eq_true] <;> first | rw [if_pos q2, if_pos q2] | rw [if_neg q2, if_neg q2] | skip
theorem m_comesTo (d : Nat) {z : zH} (hz : zRR z) (h7 : 0 ≤ z 101 7 ∧ z 101 7 ≤ 8) : cM (d + 3) 174 [xR 28 100] (hI z) = some (zI (spComesTo (z 101) (z 100 5) (z 100 7)), hI z) := by
  rw [e_X12_comesTo, show xF = 999999 + 1 from rfl, l_X12_comesTo_0]
  exact m_comesTo_l d hz h7 (z 101 7).toNat 0 (by omega) (by omega) 999999 (by omega)
theorem c_rowN (d : Nat) {z : zH} (hz : zRR z) {v : Int → Int} {o : Nat} {m w c b : Int} (hR : RRows o m w c b z v) {e f : Int} (he : 0 ≤ e ∧ e < v c) (hf : 0 ≤ f ∧ f < w) (hl : m * w = (lenX (o + 1) : Int)) (hs : m * w < 2147483648) : cM (d + 2) 57 [xR 23 o, xI (zI e), xI (zI f)] (hI z) = some (zI (v (b + (e * w + f))), hI z) := by
  obtain ⟨r0, r1, r2, r3, r4⟩ := hR
  have hb := mul_b (n := m) (w := w) (i := e) (k := f) ⟨he.1, by omega⟩ hf
  rw [c_rNumber d hz r1 (n := m) ⟨he.1, by omega⟩ (by omega) hf (by omega) hs, r4 _ hb.1 hb.2]
theorem c_endN (d : Nat) {z : zH} (hz : zRR z) {v : Int → Int} (hE : PEnds 7 z v) {e f : Int} (he : 0 ≤ e ∧ e < v 7) (hf : 0 ≤ f ∧ f < 5) : cM (d + 2) 57 [xR 23 7, xI (zI e), xI (zI f)] (hI z) = some (zI (v (152 + 5 * e + f)), hI z) := by
  rw [c_rowN d hz hE.1 he hf (by rw [lenX_s.2.2.2.1]; rfl) (by omega), show (152 : Int) + (e * 5 + f) = 152 + 5 * e + f by omega]
theorem c_isGood (d : Nat) {z : zH} (hz : zRR z) {v : Int → Int} (hv : ∀ k, zR (v k)) (hE : PEnds 7 z v) {e c s : Int} (he : zR e) (hc : zR c) (hs : zR s) : cM (d + 3) 89 [xR 26 1, xI (zI e), xI (zI c), xI (zI s)] (hI z) = some (zB ((0 ≤ e ∧ e < v 7) ∧ goodE v e c s), hI z) := by
  have r3 : z 7 3 = v 7 := hE.1.2.2.1
  have r4 : 0 ≤ v 7 ∧ v 7 ≤ 8 := hE.1.2.2.2.1
  rw [e_X10_isGood]
  by_cases q : 0 ≤ e ∧ e < v 7
  · have e1 : 152 + 5 * e + 1 = 153 + 5 * e := by omega
    have e2 : 152 + 5 * e + 2 = 154 + 5 * e := by omega
    have e3 : 152 + 5 * e + 3 = 155 + 5 * e := by omega
    simp (maxSteps := 3000000) (disch := (first | exact hz _ _ | exact hv _ | exact hL | assumption | (simp (disch := decide) only [zup_ne]; exact hL) | (simp only [zR]; omega) | omega)) only [zLit, zI_div, hI_fs, hI_us, zI_add, zI_sub, zI_mul, zI_neg, zI_lt, zI_eq, zI_ite, xbd_s, zI_nat, zld, zst, zbd, zB_0, zB_1, lenX_s, zup_at, xgd, cond_true, cond_false, and_self, and_true, true_and, false_and, and_false, or_self, or_false, false_or, if_true, if_false, ite_true, ite_false, reduceIte, reduceCtorEq, Nat.reduceEqDiff, Nat.reduceAdd, Nat.reduceMul, Int.reduceNeg, Int.reduceAdd, Int.reduceSub, Int.reduceMul, Int.reduceLT, Int.reduceLE, Int.reduceEq, Int.reduceDiv, Int.reduceMod, Int.reduceToNat, Int.toNat_zero, Int.toNat_one, Nat.reduceLeDiff, Nat.reduceLT, ite_not, not_true, not_false_eq_true, c_rHas, c_endN _ hz hE, r3, e1, e2, e3]
    simp only [zB_z, goodE, goodS]
    grind
  · simp (maxSteps := 3000000) (disch := (first | exact hz _ _ | exact hv _ | exact hL | assumption | (simp (disch := decide) only [zup_ne]; exact hL) | (simp only [zR]; omega) | omega)) only [zLit, zI_div, hI_fs, hI_us, zI_add, zI_sub, zI_mul, zI_neg, zI_lt, zI_eq, zI_ite, xbd_s, zI_nat, zld, zst, zbd, zB_0, zB_1, lenX_s, zup_at, xgd, cond_true, cond_false, and_self, and_true, true_and, false_and, and_false, or_self, or_false, false_or, if_true, if_false, ite_true, ite_false, reduceIte, reduceCtorEq, Nat.reduceEqDiff, Nat.reduceAdd, Nat.reduceMul, Int.reduceNeg, Int.reduceAdd, Int.reduceSub, Int.reduceMul, Int.reduceLT, Int.reduceLE, Int.reduceEq, Int.reduceDiv, Int.reduceMod, Int.reduceToNat, Int.toNat_zero, Int.toNat_one, Nat.reduceLeDiff, Nat.reduceLT, ite_not, not_true, not_false_eq_true, c_rHas, r3]
    simp only [zB_z]
    grind
theorem c_endFor_l (d : Nat) {z : zH} (hz : zRR z) {v : Int → Int} (hv : ∀ k, zR (v k)) (hE : PEnds 7 z v) (o : Nat) : ∀ (m : Nat) (e : Int), 0 ≤ e → e + m = v 7 → ∀ n, m < n → r_X10_endFor (d + 3) n 2 [some (xR 26 1), some (xR 18 o), some (xI (zI e))] [] (hI z) = some (zI (spComes v (z o 0) (z o 2) m e), hI z) := by
  have r3 : z 7 3 = v 7 := hE.1.2.2.1
  have r4 : 0 ≤ v 7 ∧ v 7 ≤ 8 := hE.1.2.2.2.1
  intro m
  induction m with
  | zero =>
    intro e h0 h1 n hn
    obtain ⟨n, rfl⟩ := Nat.exists_eq_succ_of_ne_zero (show n ≠ 0 by omega)
    rw [l_X10_endFor_2]
    simp (maxSteps := 3000000) (disch := (first | exact hz _ _ | exact hv _ | exact hL | assumption | (simp (disch := decide) only [zup_ne]; exact hL) | (simp only [zR]; omega) | omega)) only [zLit, zI_div, hI_fs, hI_us, zI_add, zI_sub, zI_mul, zI_neg, zI_lt, zI_eq, zI_ite, xbd_s, zI_nat, zld, zst, zbd, zB_0, zB_1, lenX_s, zup_at, xgd, cond_true, cond_false, and_self, and_true, true_and, false_and, and_false, or_self, or_false, false_or, if_true, if_false, ite_true, ite_false, reduceIte, reduceCtorEq, Nat.reduceEqDiff, Nat.reduceAdd, Nat.reduceMul, Int.reduceNeg, Int.reduceAdd, Int.reduceSub, Int.reduceMul, Int.reduceLT, Int.reduceLE, Int.reduceEq, Int.reduceDiv, Int.reduceMod, Int.reduceToNat, Int.toNat_zero, Int.toNat_one, Nat.reduceLeDiff, Nat.reduceLT, ite_not, not_true, not_false_eq_true, r3]
    rw [if_neg (by omega)]
    rfl
  | succ m ih =>
    intro e h0 h1 n hn
    obtain ⟨n, rfl⟩ := Nat.exists_eq_succ_of_ne_zero (show n ≠ 0 by omega)
    have hx := ih (e + 1) (by omega) (by omega) n (by omega)
    rw [l_X10_endFor_2]
    unfold spComes
    simp (maxSteps := 3000000) (disch := (first | exact hz _ _ | exact hv _ | exact hL | assumption | (simp (disch := decide) only [zup_ne]; exact hL) | (simp only [zR]; omega) | omega)) only [zLit, zI_div, hI_fs, hI_us, zI_add, zI_sub, zI_mul, zI_neg, zI_lt, zI_eq, zI_ite, xbd_s, zI_nat, zld, zst, zbd, zB_0, zB_1, lenX_s, zup_at, xgd, cond_true, cond_false, and_self, and_true, true_and, false_and, and_false, or_self, or_false, false_or, if_true, if_false, ite_true, ite_false, reduceIte, reduceCtorEq, Nat.reduceEqDiff, Nat.reduceAdd, Nat.reduceMul, Int.reduceNeg, Int.reduceAdd, Int.reduceSub, Int.reduceMul, Int.reduceLT, Int.reduceLE, Int.reduceEq, Int.reduceDiv, Int.reduceMod, Int.reduceToNat, Int.toNat_zero, Int.toNat_one, Nat.reduceLeDiff, Nat.reduceLT, ite_not, not_true, not_false_eq_true, c_isGood _ hz hv hE, r3, hx]
    rw [if_pos (by omega)]
    by_cases q : goodE v e (z o 0) (z o 2)
    · rw [if_pos ⟨⟨h0, by omega⟩, q⟩, if_pos q]
    · rw [if_neg (fun w => q w.2), if_neg q]
theorem c_endFor (d : Nat) {z : zH} (hz : zRR z) {v : Int → Int} (hv : ∀ k, zR (v k)) (hE : PEnds 7 z v) (o : Nat) : cM (d + 4) 90 [xR 26 1, xR 18 o] (hI z) = some (zI (spComesTo v (z o 0) (z o 2)), hI z) := by
  have r4 : 0 ≤ v 7 ∧ v 7 ≤ 8 := hE.1.2.2.2.1
  rw [e_X10_endFor, show xF = 999999 + 1 from rfl, l_X10_endFor_0]
  exact c_endFor_l d hz hv hE o (v 7).toNat 0 (by omega) (by omega) 999999 (by omega)
