/-! PURE, part 39: a LINE's code on both sides -/
theorem vEnv_b {v : Int → Int} (hL : LandI v) {c : crft} (hC : okC v c) {t : Int} (ht : 0 ≤ t ∧ t ≤ 1000) (k : Int) : 0 ≤ vEnv c t (v (24 + c.1)) (v (88 + c.1)) k ∧ vEnv c t (v (24 + c.1)) (v (88 + c.1)) k ≤ 1000 := by
  have har := area hL.1 hL.2.1
  have hC2 := hC.2
  have c1 := hC.1
  have g := hL.2.2.1 c.1 c1.1 (by omega)
  have hh := hL.2.2.2.1 c.1 c1.1 (by omega)
  unfold okC at hC
  unfold vEnv
  repeat' split
  all_goals omega
theorem c_value (d : Nat) {z : zH} (hz : zRR z) {v : Int → Int} (hR : LandR z v) (hL : LandI v) {o : Nat} (hC : okC v (crC z o)) {k : Int} (hk : 0 ≤ k ∧ k ≤ 1006) : cM (d + 2) 28 [xI (zI k), xR 21 2, xR 18 o] (hI z) = some (zI (vVal (vEnv (crC z o) (z o 4) (v (24 + (crC z o).1)) (v (88 + (crC z o).1))) k), hI z) := by
  have har := area hL.1 hL.2.1
  have c1 := hC.1
  have cg := fun d => c_ground d hR (c := z o 0) ⟨c1.1, by have := c1.2; simp only at this; omega⟩
  have ch := fun d => c_houses d hR (c := z o 0) ⟨c1.1, by have := c1.2; simp only at this; omega⟩
  have g := hL.2.2.1 (z o 0) c1.1 (by have := c1.2; simp only at this; omega)
  have h3 : 0 ≤ z o 3 ∧ z o 3 ≤ 99 := hC.2.2.2
  rw [e_X4_value]
  unfold vVal
  simp only [zLit, hI_fs, zI_sub]
  by_cases q : k < 1000
  · rw [if_pos (by rw [zI_lt (zR_s (by omega)) (zR_s (by omega))]; exact q), if_pos q]
  · rw [if_neg (by rw [zI_lt (zR_s (by omega)) (zR_s (by omega))]; exact q), if_neg q]
    have mx : (if zI 0 < zI (z o 3 - v (24 + z o 0)) then zI (z o 3 - v (24 + z o 0)) else zI 0) = zI (if 0 < z o 3 - v (24 + z o 0) then z o 3 - v (24 + z o 0) else 0) := zI_ilt (zR_s (by omega)) (zR_s (by omega)) _ _
    rcases (show k = 1000 ∨ k = 1001 ∨ k = 1002 ∨ k = 1003 ∨ k = 1004 ∨ k = 1005 ∨ k = 1006 by omega) with e | e | e | e | e | e | e <;> subst e <;> simp only [Int.reduceSub, vEnv, Int.reduceEq, reduceIte, if_true, if_false]
    all_goals (repeat rw [if_neg (by decide)])
    all_goals (try simp only [cg, xbd_n])
    all_goals (try simp only [ch, xbd_n])
    all_goals (try simp only [zI_sub, mx])
theorem vCmp_0 (a b : Int) : vCmp 0 a b = if a < b then 1 else 0 := by unfold vCmp; simp
theorem vCmp_1 (a b : Int) : vCmp 1 a b = if a = b then 1 else 0 := by unfold vCmp; simp
theorem vCmp_2 {s : Int} (h0 : ¬ s = 0) (h1 : ¬ s = 1) (a b : Int) : vCmp s a b = if b < a then 1 else 0 := by unfold vCmp; simp [h0, h1]
theorem c_compared (d : Nat) {s a b : Int} (hs : zR s) (ha : zR a) (hb : zR b) (h : xH) : cM (d + 1) 27 [xI (zI s), xI (zI a), xI (zI b)] h = some (zI (vCmp s a b), h) := by
  have h0 : zR 0 := zR_s (by omega)
  have h1 : zR 1 := zR_s (by omega)
  rw [e_X4_compared]
  simp only [zLit]
  by_cases q0 : s = 0
  · subst q0
    rw [if_pos rfl, vCmp_0]
    by_cases q : a < b
    · rw [if_pos (by rw [zI_lt ha hb]; exact q)]; simp only [q, if_true, if_false]
    · rw [if_neg (by rw [zI_lt ha hb]; exact q)]; simp only [q, if_true, if_false]
  · rw [if_neg (by rw [zI_eq hs h0]; exact q0)]
    by_cases q1 : s = 1
    · subst q1
      rw [if_pos rfl, vCmp_1]
      by_cases q : a = b
      · rw [if_pos (by rw [q])]; simp only [q, if_true]
      · rw [if_neg (by rw [zI_eq ha hb]; exact q)]; simp only [q, if_true, if_false]
    · rw [if_neg (by rw [zI_eq hs h1]; exact q1), vCmp_2 q0 q1]
      by_cases q : b < a
      · rw [if_pos (by rw [zI_lt hb ha]; exact q)]; simp only [q, if_true, if_false]
      · rw [if_neg (by rw [zI_lt hb ha]; exact q)]; simp only [q, if_true, if_false]
theorem vCmp_b (s a b : Int) : vCmp s a b = 0 ∨ vCmp s a b = 1 := by
  unfold vCmp
  by_cases q : (if s = 0 then a < b else if s = 1 then a = b else b < a)
  · rw [if_pos q]; right; rfl
  · rw [if_neg q]; left; rfl
theorem shl1_I (s : Int) : zI s <<< (zI 1 &&& zI 31) = zI (2 * s) := by
  have e : zI 1 &&& zI 31 = 1 := by decide
  rw [e]
  have : zI s <<< (1 : Int32) = zI s + zI s := by
    apply Int32.toBitVec_inj.mp
    show (zI s).toBitVec <<< (BitVec.ofNat 32 1) = (zI s).toBitVec + (zI s).toBitVec
    generalize (zI s).toBitVec = x
    show x <<< (1 : Nat) = _
    rw [BitVec.shiftLeft_eq_mul_twoPow] <;> apply BitVec.eq_of_toNat_eq <;> simp <;> omega
  rw [this, zI_add]
  congr 1
  omega
theorem c_hHas (d : Nat) {z : zH} (hz : zRR z) (h9 : z 13 3 ≤ 9) {i : Int} (hi : zR i) : cM (d + 1) 21 [xR 20 13, xI (zI i)] (hI z) = some (zB (0 ≤ i ∧ i < z 13 3), hI z) := by
  rw [e_X4_has]
  by_cases q : 0 ≤ i ∧ i < z 13 3
  · repeat' (first | (with_reducible apply hs_f; (case h => (first | (simp (disch := (first | exact hz _ _ | exact hv _ | exact hL | assumption | (simp (disch := decide) only [zup_ne]; exact hL) | (simp only [zR]; omega) | omega)) only [zLit, zI_div, hI_fs, hI_us, zI_add, zI_sub, zI_mul, zI_neg, zI_lt, zI_eq, zI_ite, xbd_s, zI_nat, zld, zst, zbd, zB_0, zB_1, lenX_s, zup_at, xgd, cond_true, cond_false, and_self, and_true, true_and, false_and, and_false, or_self, or_false, false_or, if_true, if_false, ite_true, ite_false, reduceIte, reduceCtorEq, Nat.reduceEqDiff, Nat.reduceAdd, Nat.reduceMul, Int.reduceNeg, Int.reduceAdd, Int.reduceSub, Int.reduceMul, Int.reduceLT, Int.reduceLE, Int.reduceEq, Int.reduceDiv, Int.reduceMod, Int.reduceToNat, Int.toNat_zero, Int.toNat_one, Nat.reduceLeDiff, Nat.reduceLT, ite_not, not_true, not_false_eq_true] <;> omega) | omega))) | (with_reducible apply hs_t; (case h => (first | (simp (disch := (first | exact hz _ _ | exact hv _ | exact hL | assumption | (simp (disch := decide) only [zup_ne]; exact hL) | (simp only [zR]; omega) | omega)) only [zLit, zI_div, hI_fs, hI_us, zI_add, zI_sub, zI_mul, zI_neg, zI_lt, zI_eq, zI_ite, xbd_s, zI_nat, zld, zst, zbd, zB_0, zB_1, lenX_s, zup_at, xgd, cond_true, cond_false, and_self, and_true, true_and, false_and, and_false, or_self, or_false, false_or, if_true, if_false, ite_true, ite_false, reduceIte, reduceCtorEq, Nat.reduceEqDiff, Nat.reduceAdd, Nat.reduceMul, Int.reduceNeg, Int.reduceAdd, Int.reduceSub, Int.reduceMul, Int.reduceLT, Int.reduceLE, Int.reduceEq, Int.reduceDiv, Int.reduceMod, Int.reduceToNat, Int.toNat_zero, Int.toNat_one, Nat.reduceLeDiff, Nat.reduceLT, ite_not, not_true, not_false_eq_true] <;> omega) | omega))) | (with_reducible apply hs_b; (case h => (simp (disch := (first | exact hz _ _ | exact hv _ | exact hL | assumption | (simp (disch := decide) only [zup_ne]; exact hL) | (simp only [zR]; omega) | omega)) only [zLit, zI_div, hI_fs, hI_us, zI_add, zI_sub, zI_mul, zI_neg, zI_lt, zI_eq, zI_ite, xbd_s, zI_nat, zld, zst, zbd, zB_0, zB_1, lenX_s, zup_at, xgd, cond_true, cond_false, and_self, and_true, true_and, false_and, and_false, or_self, or_false, false_or, if_true, if_false, ite_true, ite_false, reduceIte, reduceCtorEq, Nat.reduceEqDiff, Nat.reduceAdd, Nat.reduceMul, Int.reduceNeg, Int.reduceAdd, Int.reduceSub, Int.reduceMul, Int.reduceLT, Int.reduceLE, Int.reduceEq, Int.reduceDiv, Int.reduceMod, Int.reduceToNat, Int.toNat_zero, Int.toNat_one, Nat.reduceLeDiff, Nat.reduceLT, ite_not, not_true, not_false_eq_true]; rfl)); try dsimp only) | (with_reducible apply hs_c <;> intro q9 <;> (try simp (disch := (first | exact hz _ _ | exact hv _ | exact hL | assumption | (simp (disch := decide) only [zup_ne]; exact hL) | (simp only [zR]; omega) | omega)) only [zLit, zI_div, hI_fs, hI_us, zI_add, zI_sub, zI_mul, zI_neg, zI_lt, zI_eq, zI_ite, xbd_s, zI_nat, zld, zst, zbd, zB_0, zB_1, lenX_s, zup_at, xgd, cond_true, cond_false, and_self, and_true, true_and, false_and, and_false, or_self, or_false, false_or, if_true, if_false, ite_true, ite_false, reduceIte, reduceCtorEq, Nat.reduceEqDiff, Nat.reduceAdd, Nat.reduceMul, Int.reduceNeg, Int.reduceAdd, Int.reduceSub, Int.reduceMul, Int.reduceLT, Int.reduceLE, Int.reduceEq, Int.reduceDiv, Int.reduceMod, Int.reduceToNat, Int.toNat_zero, Int.toNat_one, Nat.reduceLeDiff, Nat.reduceLT, ite_not, not_true, not_false_eq_true] at q9)))
    all_goals exact zB_l1 q
  · repeat' (first | (with_reducible apply hs_f; (case h => (first | (simp (disch := (first | exact hz _ _ | exact hv _ | exact hL | assumption | (simp (disch := decide) only [zup_ne]; exact hL) | (simp only [zR]; omega) | omega)) only [zLit, zI_div, hI_fs, hI_us, zI_add, zI_sub, zI_mul, zI_neg, zI_lt, zI_eq, zI_ite, xbd_s, zI_nat, zld, zst, zbd, zB_0, zB_1, lenX_s, zup_at, xgd, cond_true, cond_false, and_self, and_true, true_and, false_and, and_false, or_self, or_false, false_or, if_true, if_false, ite_true, ite_false, reduceIte, reduceCtorEq, Nat.reduceEqDiff, Nat.reduceAdd, Nat.reduceMul, Int.reduceNeg, Int.reduceAdd, Int.reduceSub, Int.reduceMul, Int.reduceLT, Int.reduceLE, Int.reduceEq, Int.reduceDiv, Int.reduceMod, Int.reduceToNat, Int.toNat_zero, Int.toNat_one, Nat.reduceLeDiff, Nat.reduceLT, ite_not, not_true, not_false_eq_true] <;> omega) | omega))) | (with_reducible apply hs_t; (case h => (first | (simp (disch := (first | exact hz _ _ | exact hv _ | exact hL | assumption | (simp (disch := decide) only [zup_ne]; exact hL) | (simp only [zR]; omega) | omega)) only [zLit, zI_div, hI_fs, hI_us, zI_add, zI_sub, zI_mul, zI_neg, zI_lt, zI_eq, zI_ite, xbd_s, zI_nat, zld, zst, zbd, zB_0, zB_1, lenX_s, zup_at, xgd, cond_true, cond_false, and_self, and_true, true_and, false_and, and_false, or_self, or_false, false_or, if_true, if_false, ite_true, ite_false, reduceIte, reduceCtorEq, Nat.reduceEqDiff, Nat.reduceAdd, Nat.reduceMul, Int.reduceNeg, Int.reduceAdd, Int.reduceSub, Int.reduceMul, Int.reduceLT, Int.reduceLE, Int.reduceEq, Int.reduceDiv, Int.reduceMod, Int.reduceToNat, Int.toNat_zero, Int.toNat_one, Nat.reduceLeDiff, Nat.reduceLT, ite_not, not_true, not_false_eq_true] <;> omega) | omega))) | (with_reducible apply hs_b; (case h => (simp (disch := (first | exact hz _ _ | exact hv _ | exact hL | assumption | (simp (disch := decide) only [zup_ne]; exact hL) | (simp only [zR]; omega) | omega)) only [zLit, zI_div, hI_fs, hI_us, zI_add, zI_sub, zI_mul, zI_neg, zI_lt, zI_eq, zI_ite, xbd_s, zI_nat, zld, zst, zbd, zB_0, zB_1, lenX_s, zup_at, xgd, cond_true, cond_false, and_self, and_true, true_and, false_and, and_false, or_self, or_false, false_or, if_true, if_false, ite_true, ite_false, reduceIte, reduceCtorEq, Nat.reduceEqDiff, Nat.reduceAdd, Nat.reduceMul, Int.reduceNeg, Int.reduceAdd, Int.reduceSub, Int.reduceMul, Int.reduceLT, Int.reduceLE, Int.reduceEq, Int.reduceDiv, Int.reduceMod, Int.reduceToNat, Int.toNat_zero, Int.toNat_one, Nat.reduceLeDiff, Nat.reduceLT, ite_not, not_true, not_false_eq_true]; rfl)); try dsimp only) | (with_reducible apply hs_c <;> intro q9 <;> (try simp (disch := (first | exact hz _ _ | exact hv _ | exact hL | assumption | (simp (disch := decide) only [zup_ne]; exact hL) | (simp only [zR]; omega) | omega)) only [zLit, zI_div, hI_fs, hI_us, zI_add, zI_sub, zI_mul, zI_neg, zI_lt, zI_eq, zI_ite, xbd_s, zI_nat, zld, zst, zbd, zB_0, zB_1, lenX_s, zup_at, xgd, cond_true, cond_false, and_self, and_true, true_and, false_and, and_false, or_self, or_false, false_or, if_true, if_false, ite_true, ite_false, reduceIte, reduceCtorEq, Nat.reduceEqDiff, Nat.reduceAdd, Nat.reduceMul, Int.reduceNeg, Int.reduceAdd, Int.reduceSub, Int.reduceMul, Int.reduceLT, Int.reduceLE, Int.reduceEq, Int.reduceDiv, Int.reduceMod, Int.reduceToNat, Int.toNat_zero, Int.toNat_one, Nat.reduceLeDiff, Nat.reduceLT, ite_not, not_true, not_false_eq_true] at q9)))
    all_goals exact zB_l0 q
theorem c_holds_l (d : Nat) {z : zH} (hz : zRR z) {v : Int → Int} (hv : ∀ k, zR (v k)) (hR : LandR z v) (hL : LandI v) {o : Nat} (hC : okC v (crC z o)) (ht : 0 ≤ z o 4 ∧ z o 4 ≤ 1000) {l : Int} (hl : 0 ≤ l ∧ l ≤ 8) (he : z 15 (l + 1) ≤ 240) : ∀ (m : Nat) (k s s' : Int), Crun (z 16) (vEnv (crC z o) (z o 4) (v (24 + (crC z o).1)) (v (88 + (crC z o).1))) m k s s' → 0 ≤ k → k + m = z 15 (l + 1) → ∀ n, m < n → r_X4_holds (d + 2) n 41 [some (xR 20 13), none, some (xR 21 2), some (xR 18 o), some (xI (zI s)), some (xI (zI (z 15 (l + 1)))), some (xI (zI k)), none, none, none, none] [] (hI z) = some (zB (s' % 2 = 1), hI z) := by
  have lr : zR (l + 1) := zR_s (by omega)
  have h0r : zR 0 := zR_s (by omega)
  have er : zR (z 15 (l + 1)) := hz _ _
  intro m
  induction m with
  | zero =>
    intro k s s' hc k0 k1 n hn
    obtain ⟨n, rfl⟩ : ∃ j, n = j + 1 := ⟨n - 1, by omega⟩
    have hc : s' = s := hc
    subst hc
    rw [l_X4_holds_41]
    simp only [zLit, zI_add, Nat.reduceAdd, lenX_s, zI_and1]
    rw [if_neg (by rw [zI_lt (zR_s (by omega)) er]; omega)]
    by_cases q : s' % 2 = 1
    · rw [if_pos (by rw [q])]
      exact zB_l1 q
    · rw [if_neg (by rw [zI_eq (zR_s (by omega)) (zR_s (by omega))]; exact q)]
      exact zB_l0 q
  | succ m ih =>
    intro k s s' hc k0 k1 n hn
    obtain ⟨n, rfl⟩ : ∃ j, n = j + 1 := ⟨n - 1, by omega⟩
    obtain ⟨ok, sb, hc⟩ := hc
    have ih := ih (k + 1) _ s' hc (by omega) (by omega) n (by omega)
    have kr : zR k := zR_s (by omega)
    have bk : ¬ (zI k < zI 0 ∨ 240 ≤ (zI k).toNatClampNeg) := by rw [zI_lt kr h0r, zI_nat kr]; omega
    have ek : hI z 16 (zI k).toNatClampNeg = zI (z 16 k) := by rw [zI_nat kr, zld k0]
    generalize hco : z 16 k = co at *
    obtain ⟨o0, o1, o2⟩ := ok
    have cr : zR co := by simp only [zR]; omega
    have c3r : zR (co - 3) := by simp only [zR]; omega
    have r10 : zR 1024 := zR_s (by omega)
    rw [l_X4_holds_41]
    simp only [zLit, zI_add, zI_neg, Nat.reduceAdd, lenX_s, if_neg bk, ek]
    rw [if_pos (by rw [zI_lt kr er]; omega)]
    unfold cStep at ih
    by_cases q0 : co = 0
    · rw [if_pos q0] at ih
      rw [if_pos (by rw [q0]), zI_xor1 sb]
      exact ih
    · rw [if_neg q0] at ih
      rw [if_neg (by rw [zI_eq cr h0r]; exact q0)]
      by_cases q1 : co = 1
      · rw [if_pos q1] at ih
        rw [if_pos (by rw [q1]), shr1_I sb, zI_and1, zI_sub]
        rcases (show s % 2 = 1 ∨ s % 2 = 0 by omega) with w | w
        · rw [if_pos w] at ih
          rw [w, show (1 : Int) - 1 = 0 from rfl, and_m1]
          exact ih
        · rw [if_neg (by omega)] at ih
          rw [w, show (1 : Int) - 0 = 1 from rfl, and_m2 (by omega)]
          exact ih
      · rw [if_neg q1] at ih
        rw [if_neg (by rw [zI_eq cr (zR_s (by omega))]; exact q1)]
        by_cases q2 : co = 2
        · rw [if_pos q2] at ih
          rw [if_pos (by rw [q2]), shr1_I sb, zI_and1]
          rcases (show s % 2 = 1 ∨ s % 2 = 0 by omega) with w | w
          · rw [if_pos w] at ih
            rw [w, (or1_I (s := s / 2) (by omega)).1]
            exact ih
          · rw [if_neg (by omega)] at ih
            rw [w, (or1_I (s := s / 2) (by omega)).2]
            exact ih
        · rw [if_neg q2] at ih
          have o2 := o2 (by omega)
          have dr : zR ((co - 3) / 1024) := by simp only [zR]; omega
          have n1024 : ¬ zI 1024 = zI 0 := by decide
          have e1 : zI (co - 3) / zI 1024 = zI ((co - 3) / 1024) := zI_div c3r (by omega) (by omega) r10
          have e2 : zI ((co - 3) / 1024) / zI 1024 = zI ((co - 3) / 1024 / 1024) := zI_div dr (by omega) (by omega) r10
          have e3 : zI ((co - 3) / 1024) - zI ((co - 3) / 1024) / zI 1024 * zI 1024 = zI ((co - 3) / 1024 % 1024) := zI_rem dr (by omega) (by omega) r10
          have e4 : zI (co - 3) - zI (co - 3) / zI 1024 * zI 1024 = zI ((co - 3) % 1024) := zI_rem c3r (by omega) (by omega) r10
          have v1 := fun d => c_value d hz hR hL hC (k := (co - 3) / 1024 % 1024) (by omega)
          have v2 := fun d => c_value d hz hR hL hC (k := (co - 3) % 1024) (by omega)
          rw [if_neg (by rw [zI_eq cr (zR_s (by omega))]; exact q2)]
          have eb := vEnv_b hL hC ht
          generalize hr : vEnv (crC z o) (z o 4) (v (24 + (crC z o).1)) (v (88 + (crC z o).1)) = r at *
          have b1 : 0 ≤ vVal r ((co - 3) / 1024 % 1024) ∧ vVal r ((co - 3) / 1024 % 1024) ≤ 1000 := by
            unfold vVal; split
            · omega
            · exact eb _
          have b2 : 0 ≤ vVal r ((co - 3) % 1024) ∧ vVal r ((co - 3) % 1024) ≤ 1000 := by
            unfold vVal; split
            · omega
            · exact eb _
          have cc := fun d => c_compared d (s := (co - 3) / 1024 / 1024) (a := vVal r ((co - 3) / 1024 % 1024)) (b := vVal r ((co - 3) % 1024)) (by simp only [zR]; omega) (zR_s (by omega)) (zR_s (by omega)) (hI z)
          have e5 : zI ((co - 3) / 1024) - zI ((co - 3) / 1024 / 1024) * zI 1024 = zI ((co - 3) / 1024 % 1024) := by rw [← e2]; exact e3
          have e6 : zI (co - 3) - zI ((co - 3) / 1024) * zI 1024 = zI ((co - 3) % 1024) := by rw [← e1]; exact e4
          simp only [if_neg n1024, zI_sub]
          simp only [e1, e2, e5, e6]
          simp only [v1, xbd_n]
          (try simp only [v2, xbd_n])
          (try simp only [e1, e2, cc, xbd_n, shl1_I])
          have orr : zI (2 * s) ||| zI (vCmp ((co - 3) / 1024 / 1024) (vVal r ((co - 3) / 1024 % 1024)) (vVal r ((co - 3) % 1024))) = zI (2 * s + vCmp ((co - 3) / 1024 / 1024) (vVal r ((co - 3) / 1024 % 1024)) (vVal r ((co - 3) % 1024))) := by
            rcases vCmp_b ((co - 3) / 1024 / 1024) (vVal r ((co - 3) / 1024 % 1024)) (vVal r ((co - 3) % 1024)) with w | w
            · rw [w, Int.add_zero]; exact Int32.or_zero
            · rw [w]
              have := (or1_I (s := 2 * s) (by omega)).1
              rw [this]
              congr 1
              omega
          rw [orr]
          exact ih
theorem c_holds (d : Nat) {z : zH} (hz : zRR z) {v : Int → Int} (hv : ∀ k, zR (v k)) (hR : LandR z v) (hL : LandI v) (hH : PHands 13 z v) {o : Nat} (hC : okC v (crC z o)) (ht : 0 ≤ z o 4 ∧ z o 4 ≤ 1000) {l : Int} (hl : 0 ≤ l ∧ l < v 10) {B : (Int → Int) → Int} {D : Nat} (hB : Den (z 16) (fun k => v (323 + k)) (z 15 l) (z 15 (l + 1)) (v (297 + 3 * l)) (v (298 + 3 * l)) B D) : cM (d + 3) 26 [xR 20 13, xI (zI l), xR 21 2, xR 18 o] (hI z) = some (zB (B (vEnv (crC z o) (z o 4) (v (24 + (crC z o).1)) (v (88 + (crC z o).1))) = 1), hI z) := by
  have h10 := hH.2.1
  have r13 : z 13 3 = v 10 := hH.1
  obtain ⟨b1, b2, b3, b4, b5⟩ := hB
  have lr : zR l := zR_s (by omega)
  have h0r : zR 0 := zR_s (by omega)
  have bl : ¬ (zI l < zI 0 ∨ 10 ≤ (zI l).toNatClampNeg) := by rw [zI_lt lr h0r, zI_nat lr]; omega
  have el : hI z 15 (zI l).toNatClampNeg = zI (z 15 l) := by rw [zI_nat lr, zld hl.1]
  have e := c_holds_l d hz hv hR hL hC ht (l := l) ⟨hl.1, by omega⟩ b1.2.2 (z 15 (l + 1) - z 15 l).toNat (z 15 l) 0 _ (b4 _ 0 (by omega) (by rw [Int.zero_mul]; omega)) b1.1 (by omega) 999999 (by omega)
  have l1r : zR (l + 1) := zR_s (by omega)
  have bl1 : ¬ (zI (l + 1) < zI 0 ∨ 10 ≤ (zI (l + 1)).toNatClampNeg) := by rw [zI_lt l1r h0r, zI_nat l1r]; omega
  have el1 : hI z 15 (zI (l + 1)).toNatClampNeg = zI (z 15 (l + 1)) := by rw [zI_nat l1r, zld (by omega)]
  have hq : cM (d + 2) 21 [xR 20 13, xI (zI l)] (hI z) = some (zI 1, hI z) := by
    rw [c_hHas (d + 1) hz (by omega) lr]
    unfold zB
    rw [if_pos (show 0 ≤ l ∧ l < z 13 3 by omega)]
    rfl
  rw [e_X4_holds, show xF = 999999 + 1 from rfl, l_X4_holds_0]
  simp only [zLit, zI_add, Nat.reduceAdd, lenX_s]
  rw [hq, xbd_n, if_neg (show ¬ zI 1 = zI 0 by decide)]
  simp only [if_neg bl, el, if_neg bl1, el1]
  rw [if_neg (show ¬ zI 240 < zI (z 15 (l + 1)) by rw [zI_lt (zR_s (by omega)) (hz _ _)]; omega), if_neg (show ¬ zI (z 15 l) < zI 0 by rw [zI_lt (hz _ _) h0r]; omega)]
  rw [e]
  have w : (2 * 0 + B (vEnv (crC z o) (z o 4) (v (24 + (crC z o).1)) (v (88 + (crC z o).1)))) % 2 = 1 ↔ B (vEnv (crC z o) (z o 4) (v (24 + (crC z o).1)) (v (88 + (crC z o).1))) = 1 := by
    rcases b3 (vEnv (crC z o) (z o 4) (v (24 + (crC z o).1)) (v (88 + (crC z o).1))) with q | q <;> rw [q] <;> omega
  simp only [w]
