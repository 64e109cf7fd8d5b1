/-! PURE, part 31: fair; work for two -/
def spFair (v : Int → Int) (en k u : Int) : Nat → Int → Int → Int → Int × Int
  | 0, _, a, c => (a, c)
  | m + 1, i, a, c => if v (512 + 3 * i) = u ∧ k ≤ v (513 + 3 * i) then spFair v en k u m (i + 1) (a + 1) (if v (514 + 3 * i) = en then c + 1 else c) else spFair v en k u m (i + 1) a c
theorem spFair_b {v : Int → Int} {en k u : Int} : ∀ (m : Nat) (i a c : Int), 0 ≤ c → c ≤ a → 0 ≤ (spFair v en k u m i a c).2 ∧ (spFair v en k u m i a c).2 ≤ (spFair v en k u m i a c).1 ∧ (spFair v en k u m i a c).1 ≤ a + m := by
  intro m
  induction m with
  | zero => intro i a c h1 h2; exact ⟨h1, h2, by rw [spFair]; omega⟩
  | succ m ih =>
    intro i a c h1 h2
    rw [spFair]
    split
    · split
      · have := ih (i + 1) (a + 1) (c + 1) (by omega) (by omega); omega
      · have := ih (i + 1) (a + 1) c h1 (by omega); omega
    · have := ih (i + 1) a c h1 h2; omega
def spFairR (r : Int × Int) (pt : Int) : Int := if r.1 = 0 then -3 else spPart r.2 r.1 pt
theorem c_fair_l (d : Nat) {z : zH} (hz : zRR z) {v : Int → Int} (hT : PTrials 21 z v) {en k u pt : Int} (he : zR en) (hk : 0 ≤ k ∧ k ≤ 60) (hu : u = 0 ∨ u = 1) (hp : pt = 0 ∨ pt = 1) : ∀ (m : Nat) (i a c : Int), 0 ≤ i → i + m = v 13 → 0 ≤ c → c ≤ a → a ≤ i → ∀ n, m < n → r_X11_fair (d + 2) n 41 [some (xR 27 0), some (xI (zI en)), some (xI (zI k)), some (xI (zI u)), some (xI (zI pt)), some (xI (zI a)), some (xI (zI c)), some (xI (zI i)), none] [] (hI z) = some (zI (spFairR (spFair v en k u m i a c) pt), hI z) := by
  have h3 := hT.1.2.2.1
  have h4 := hT.1.2.2.2.1
  intro m
  induction m with
  | zero =>
    intro i a c i0 i1 c0 ca ai n hn
    obtain ⟨n, rfl⟩ := Nat.exists_eq_succ_of_ne_zero (show n ≠ 0 by omega)
    rw [l_X11_fair_41]
    simp only [hI_fs, h3, zLit]
    rw [if_neg (by rw [zI_lt (zR_s (by omega)) (zR_s (by omega))]; omega)]
    unfold spFairR spFair
    by_cases q : a = 0
    · rw [if_pos (by rw [q]), if_pos q, zI_neg]
    · have cf := fun d => c_frac d (hI z) (a := c) (b := a) (p := pt) ⟨c0, by omega⟩ ⟨by omega, by omega⟩ hp
      rw [if_neg (by rw [zI_eq (zR_s (by omega)) (zR_s (by omega))]; exact q), if_neg q]
      simp only [cf, xbd_n]
  | succ m ih =>
    intro i a c i0 i1 c0 ca ai n hn
    obtain ⟨n, rfl⟩ := Nat.exists_eq_succ_of_ne_zero (show n ≠ 0 by omega)
    have w := hT.2 i i0 (by omega)
    have n0 := fun d => c_rowN d hz hT.1 (e := i) (f := 0) ⟨i0, by omega⟩ (by omega) (by simp only [Nat.reduceAdd, lenX_s]; rfl) (by omega)
    have n1 := fun d => c_rowN d hz hT.1 (e := i) (f := 1) ⟨i0, by omega⟩ (by omega) (by simp only [Nat.reduceAdd, lenX_s]; rfl) (by omega)
    have n2 := fun d => c_rowN d hz hT.1 (e := i) (f := 2) ⟨i0, by omega⟩ (by omega) (by simp only [Nat.reduceAdd, lenX_s]; rfl) (by omega)
    simp only [show (512 : Int) + (i * 3 + 0) = 512 + 3 * i by omega] at n0
    simp only [show (512 : Int) + (i * 3 + 1) = 513 + 3 * i by omega] at n1
    simp only [show (512 : Int) + (i * 3 + 2) = 514 + 3 * i by omega] at n2
    have r0 : zR (v (512 + 3 * i)) := zR_s (by omega)
    have r1 : zR (v (513 + 3 * i)) := zR_s (by omega)
    have r2 : zR (v (514 + 3 * i)) := zR_s (by omega)
    have hkr : zR k := zR_s (by omega)
    have h1r : zR 1 := zR_s (by omega)
    have h0r : zR 0 := zR_s (by omega)
    have hx := fun a c c0 ca ai => ih (i + 1) a c (by omega) (by omega) c0 ca ai n (by omega)
    rw [l_X11_fair_41, spFair]
    simp only [hI_fs, h3, zLit, zI_add]
    rw [if_pos (by rw [zI_lt (zR_s (by omega)) (zR_s (by omega))]; omega)]
    simp only [n0, xbd_n]
    by_cases q0 : v (512 + 3 * i) = 1
    · rw [if_pos (by rw [q0])]
      rcases hu with e | e
      · subst e
        rw [if_neg (by rw [zI_eq h1r h0r]; omega), if_neg (by omega)]
        exact hx a c c0 ca (by omega)
      · subst e
        rw [if_pos rfl]
        simp only [n1, xbd_n]
        by_cases q1 : v (513 + 3 * i) < k
        · rw [if_pos (by rw [zI_lt r1 hkr]; exact q1), if_neg (by omega)]
          exact hx a c c0 ca (by omega)
        · rw [if_neg (by rw [zI_lt r1 hkr]; exact q1), if_pos (by omega)]
          simp only [n2, xbd_n]
          by_cases q2 : v (514 + 3 * i) = en
          · rw [if_pos (by rw [q2]), if_pos q2]
            exact hx _ _ (by omega) (by omega) (by omega)
          · rw [if_neg (by rw [zI_eq r2 he]; exact q2), if_neg q2]
            exact hx _ _ (by omega) (by omega) (by omega)
    · rw [if_neg (by rw [zI_eq r0 h1r]; exact q0)]
      rcases hu with e | e
      · subst e
        rw [if_pos rfl]
        simp only [n1, xbd_n]
        by_cases q1 : v (513 + 3 * i) < k
        · rw [if_pos (by rw [zI_lt r1 hkr]; exact q1), if_neg (by omega)]
          exact hx a c c0 ca (by omega)
        · rw [if_neg (by rw [zI_lt r1 hkr]; exact q1), if_pos (by omega)]
          simp only [n2, xbd_n]
          by_cases q2 : v (514 + 3 * i) = en
          · rw [if_pos (by rw [q2]), if_pos q2]
            exact hx _ _ (by omega) (by omega) (by omega)
          · rw [if_neg (by rw [zI_eq r2 he]; exact q2), if_neg q2]
            exact hx _ _ (by omega) (by omega) (by omega)
      · subst e
        rw [if_neg (by rw [zI_eq h0r h1r]; omega), if_neg (by omega)]
        exact hx a c c0 ca (by omega)
theorem m_fair_l (d : Nat) {z : zH} (hz : zRR z) {z0 : zH} (hT : PTrials 21 z0 (z 101)) {en k u pt : Int} (he : zR en) (hk : 0 ≤ k ∧ k ≤ 60) (hu : u = 0 ∨ u = 1) (hp : pt = 0 ∨ pt = 1) : ∀ (m : Nat) (i a c : Int), 0 ≤ i → i + m = z 101 13 → 0 ≤ c → c ≤ a → a ≤ i → ∀ n, m < n → r_X12_fair (d + 2) n 41 [some (xR 28 100), some (xI (zI en)), some (xI (zI k)), some (xI (zI u)), some (xI (zI pt)), some (xI (zI a)), some (xI (zI c)), some (xI (zI i))] [] (hI z) = some (zI (spFairR (spFair (z 101) en k u m i a c) pt), hI z) := by
  have h4 := hT.1.2.2.2.1
  have h13 : zR 13 := zR_s (by omega)
  have h0r : zR 0 := zR_s (by omega)
  have h1r : zR 1 := zR_s (by omega)
  intro m
  induction m with
  | zero =>
    intro i a c i0 i1 c0 ca ai n hn
    obtain ⟨n, rfl⟩ := Nat.exists_eq_succ_of_ne_zero (show n ≠ 0 by omega)
    rw [l_X12_fair_41]
    simp only [zLit, lenX_s, zI_nat h13, zld (show (0 : Int) ≤ 13 by omega)]
    rw [if_neg (by rw [zI_lt h13 h0r]; omega), if_neg (by rw [zI_lt (zR_s (by omega)) (zR_s (by omega))]; omega)]
    unfold spFairR spFair
    by_cases q : a = 0
    · rw [if_pos (by rw [q]), if_pos q, zI_neg]
    · have cf := fun d => m_part d (hI z) (a := c) (b := a) (p := pt) ⟨c0, by omega⟩ ⟨by omega, by omega⟩ hp
      rw [if_neg (by rw [zI_eq (zR_s (by omega)) (zR_s (by omega))]; exact q), if_neg q]
      simp only [cf, xbd_n]
  | succ m ih =>
    intro i a c i0 i1 c0 ca ai n hn
    obtain ⟨n, rfl⟩ := Nat.exists_eq_succ_of_ne_zero (show n ≠ 0 by omega)
    have w := hT.2 i i0 (by omega)
    have r0 : zR (z 101 (512 + 3 * i)) := hz _ _
    have r1 : zR (z 101 (513 + 3 * i)) := hz _ _
    have r2 : zR (z 101 (514 + 3 * i)) := hz _ _
    have hkr : zR k := zR_s (by omega)
    have i0r : zR (512 + 3 * i) := zR_s (by omega)
    have i1r : zR (512 + 3 * i + 1) := zR_s (by omega)
    have i2r : zR (512 + 3 * i + 2) := zR_s (by omega)
    have b0 : ¬ (zI (512 + 3 * i) < zI 0 ∨ 572 ≤ (zI (512 + 3 * i)).toNatClampNeg) := by rw [zI_lt i0r h0r, zI_nat i0r]; omega
    have b1 : ¬ (zI (512 + 3 * i + 1) < zI 0 ∨ 572 ≤ (zI (512 + 3 * i + 1)).toNatClampNeg) := by rw [zI_lt i1r h0r, zI_nat i1r]; omega
    have b2 : ¬ (zI (512 + 3 * i + 2) < zI 0 ∨ 572 ≤ (zI (512 + 3 * i + 2)).toNatClampNeg) := by rw [zI_lt i2r h0r, zI_nat i2r]; omega
    have e0 : hI z 101 (zI (512 + 3 * i)).toNatClampNeg = zI (z 101 (512 + 3 * i)) := by rw [zI_nat i0r, zld (by omega)]
    have e1 : hI z 101 (zI (512 + 3 * i + 1)).toNatClampNeg = zI (z 101 (513 + 3 * i)) := by rw [zI_nat i1r, zld (by omega), show 512 + 3 * i + 1 = 513 + 3 * i by omega]
    have e2 : hI z 101 (zI (512 + 3 * i + 2)).toNatClampNeg = zI (z 101 (514 + 3 * i)) := by rw [zI_nat i2r, zld (by omega), show 512 + 3 * i + 2 = 514 + 3 * i by omega]
    have hx := fun a c c0 ca ai => ih (i + 1) a c (by omega) (by omega) c0 ca ai n (by omega)
    rw [l_X12_fair_41, spFair]
    simp only [zLit, lenX_s, zI_nat h13, zld (show (0 : Int) ≤ 13 by omega), zI_mul, zI_add, e0, e1, e2, if_neg b0, if_neg b1, if_neg b2, Int.add_zero]
    rw [if_neg (by rw [zI_lt h13 h0r]; omega), if_pos (by rw [zI_lt (zR_s (by omega)) (zR_s (by omega))]; omega)]
    rcases hu with e | e
    · subst e
      rw [if_pos rfl]
      by_cases q0 : z 101 (512 + 3 * i) = 0
      · rw [if_pos (by rw [q0])]
        by_cases q1 : z 101 (513 + 3 * i) < k
        · rw [if_pos (by rw [zI_lt r1 hkr]; exact q1), if_neg (by omega)]
          exact hx a c c0 ca (by omega)
        · rw [if_neg (by rw [zI_lt r1 hkr]; exact q1), if_pos (show z 101 (512 + 3 * i) = 0 ∧ k ≤ z 101 (513 + 3 * i) from ⟨q0, by omega⟩)]
          by_cases q2 : z 101 (514 + 3 * i) = en
          · rw [if_pos (by rw [q2]), if_pos q2]
            exact hx _ _ (by omega) (by omega) (by omega)
          · rw [if_neg (by rw [zI_eq r2 he]; exact q2), if_neg q2]
            exact hx _ _ (by omega) (by omega) (by omega)
      · rw [if_neg (by rw [zI_eq r0 h0r]; exact q0), if_neg (by omega)]
        exact hx a c c0 ca (by omega)
    · subst e
      rw [if_neg (by rw [zI_eq h1r h0r]; omega)]
      by_cases q0 : z 101 (512 + 3 * i) = 1
      · rw [if_pos (by rw [q0])]
        by_cases q1 : z 101 (513 + 3 * i) < k
        · rw [if_pos (by rw [zI_lt r1 hkr]; exact q1), if_neg (by omega)]
          exact hx a c c0 ca (by omega)
        · rw [if_neg (by rw [zI_lt r1 hkr]; exact q1), if_pos (show z 101 (512 + 3 * i) = 1 ∧ k ≤ z 101 (513 + 3 * i) from ⟨q0, by omega⟩)]
          by_cases q2 : z 101 (514 + 3 * i) = en
          · rw [if_pos (by rw [q2]), if_pos q2]
            exact hx _ _ (by omega) (by omega) (by omega)
          · rw [if_neg (by rw [zI_eq r2 he]; exact q2), if_neg q2]
            exact hx _ _ (by omega) (by omega) (by omega)
      · rw [if_neg (by rw [zI_eq r0 h1r]; exact q0), if_neg (by omega)]
        exact hx a c c0 ca (by omega)
theorem k_fair {z : zH} (h : Inv z) {en k u pt : Int} (he : zR en) (hk : zR k) (hu : u = 0 ∨ u = 1) (hp : zR pt) : two 135 241 [xI (zI en), xI (zI k), xI (zI u), xI (zI pt)] z := by
  have hI0 := h
  obtain ⟨hz, hW, hK, hT, hO, hSh, hF, hCt⟩ := h
  have hT : PTrials 21 z (z 101) := hW.2.2.2.2.2.2.2.2
  have h4 := hT.1.2.2.2.1
  have hur : zR u := zR_s (by omega)
  by_cases q : (0 ≤ en ∧ en ≤ 7) ∧ (0 ≤ k ∧ k ≤ 60) ∧ (0 ≤ pt ∧ pt ≤ 1)
  · obtain ⟨qe, qk, qp⟩ := q
    have E1 := c_fair_l 57 hz hT (en := en) (k := k) (u := u) (pt := pt) he qk hu (by omega) (z 101 13).toNat 0 0 0 (by omega) (by omega) (by omega) (by omega) (by omega) 999999 (by omega)
    have E2 := m_fair_l 57 hz hT (en := en) (k := k) (u := u) (pt := pt) he qk hu (by omega) (z 101 13).toNat 0 0 0 (by omega) (by omega) (by omega) (by omega) (by omega) 999999 (by omega)
    have b := spFair_b (v := z 101) (en := en) (k := k) (u := u) (z 101 13).toNat 0 0 0 (by omega) (by omega)
    refine two_ro hI0 (spFairR (spFair (z 101) en k u (z 101 13).toNat 0 0 0) pt) ?_ ?_ ?_
    · unfold spFairR
      split
      · exact zR_s (by omega)
      · exact spPart_b ⟨b.1, by omega⟩ ⟨by omega, by omega⟩
    · rw [e_X11_fair, show xF = 999999 + 1 from rfl, l_X11_fair_0]
      repeat' (first | (with_reducible apply hs_f; (case h => (first | (simp (disch := (first | exact hz _ _ | exact hv _ | exact hL | assumption | (simp (disch := decide) only [zup_ne]; exact hL) | (simp only [zR]; omega) | omega)) only [zLit, zI_div, hI_fs, hI_us, zI_add, zI_sub, zI_mul, zI_neg, zI_lt, zI_eq, zI_ite, xbd_s, zI_nat, zld, zst, zbd, zB_0, zB_1, lenX_s, zup_at, xgd, cond_true, cond_false, and_self, and_true, true_and, false_and, and_false, or_self, or_false, false_or, if_true, if_false, ite_true, ite_false, reduceIte, reduceCtorEq, Nat.reduceEqDiff, Nat.reduceAdd, Nat.reduceMul, Int.reduceNeg, Int.reduceAdd, Int.reduceSub, Int.reduceMul, Int.reduceLT, Int.reduceLE, Int.reduceEq, Int.reduceDiv, Int.reduceMod, Int.reduceToNat, Int.toNat_zero, Int.toNat_one, Nat.reduceLeDiff, Nat.reduceLT, ite_not, not_true, not_false_eq_true] <;> omega) | omega))) | (with_reducible apply hs_t; (case h => (first | (simp (disch := (first | exact hz _ _ | exact hv _ | exact hL | assumption | (simp (disch := decide) only [zup_ne]; exact hL) | (simp only [zR]; omega) | omega)) only [zLit, zI_div, hI_fs, hI_us, zI_add, zI_sub, zI_mul, zI_neg, zI_lt, zI_eq, zI_ite, xbd_s, zI_nat, zld, zst, zbd, zB_0, zB_1, lenX_s, zup_at, xgd, cond_true, cond_false, and_self, and_true, true_and, false_and, and_false, or_self, or_false, false_or, if_true, if_false, ite_true, ite_false, reduceIte, reduceCtorEq, Nat.reduceEqDiff, Nat.reduceAdd, Nat.reduceMul, Int.reduceNeg, Int.reduceAdd, Int.reduceSub, Int.reduceMul, Int.reduceLT, Int.reduceLE, Int.reduceEq, Int.reduceDiv, Int.reduceMod, Int.reduceToNat, Int.toNat_zero, Int.toNat_one, Nat.reduceLeDiff, Nat.reduceLT, ite_not, not_true, not_false_eq_true] <;> omega) | omega))) | (with_reducible apply hs_b; (case h => (simp (disch := (first | exact hz _ _ | exact hv _ | exact hL | assumption | (simp (disch := decide) only [zup_ne]; exact hL) | (simp only [zR]; omega) | omega)) only [zLit, zI_div, hI_fs, hI_us, zI_add, zI_sub, zI_mul, zI_neg, zI_lt, zI_eq, zI_ite, xbd_s, zI_nat, zld, zst, zbd, zB_0, zB_1, lenX_s, zup_at, xgd, cond_true, cond_false, and_self, and_true, true_and, false_and, and_false, or_self, or_false, false_or, if_true, if_false, ite_true, ite_false, reduceIte, reduceCtorEq, Nat.reduceEqDiff, Nat.reduceAdd, Nat.reduceMul, Int.reduceNeg, Int.reduceAdd, Int.reduceSub, Int.reduceMul, Int.reduceLT, Int.reduceLE, Int.reduceEq, Int.reduceDiv, Int.reduceMod, Int.reduceToNat, Int.toNat_zero, Int.toNat_one, Nat.reduceLeDiff, Nat.reduceLT, ite_not, not_true, not_false_eq_true, c_within]; rfl)); try dsimp only) | (with_reducible apply hs_c <;> intro q9 <;> (try simp (disch := (first | exact hz _ _ | exact hv _ | exact hL | assumption | (simp (disch := decide) only [zup_ne]; exact hL) | (simp only [zR]; omega) | omega)) only [zLit, zI_div, hI_fs, hI_us, zI_add, zI_sub, zI_mul, zI_neg, zI_lt, zI_eq, zI_ite, xbd_s, zI_nat, zld, zst, zbd, zB_0, zB_1, lenX_s, zup_at, xgd, cond_true, cond_false, and_self, and_true, true_and, false_and, and_false, or_self, or_false, false_or, if_true, if_false, ite_true, ite_false, reduceIte, reduceCtorEq, Nat.reduceEqDiff, Nat.reduceAdd, Nat.reduceMul, Int.reduceNeg, Int.reduceAdd, Int.reduceSub, Int.reduceMul, Int.reduceLT, Int.reduceLE, Int.reduceEq, Int.reduceDiv, Int.reduceMod, Int.reduceToNat, Int.toNat_zero, Int.toNat_one, Nat.reduceLeDiff, Nat.reduceLT, ite_not, not_true, not_false_eq_true] at q9)))
      all_goals simp only [zLit]
      all_goals exact E1
    · rw [e_X12_fair, show xF = 999999 + 1 from rfl, l_X12_fair_0]
      repeat' (first | (with_reducible apply hs_f; (case h => (first | (simp (disch := (first | exact hz _ _ | exact hv _ | exact hL | assumption | (simp (disch := decide) only [zup_ne]; exact hL) | (simp only [zR]; omega) | omega)) only [zLit, zI_div, hI_fs, hI_us, zI_add, zI_sub, zI_mul, zI_neg, zI_lt, zI_eq, zI_ite, xbd_s, zI_nat, zld, zst, zbd, zB_0, zB_1, lenX_s, zup_at, xgd, cond_true, cond_false, and_self, and_true, true_and, false_and, and_false, or_self, or_false, false_or, if_true, if_false, ite_true, ite_false, reduceIte, reduceCtorEq, Nat.reduceEqDiff, Nat.reduceAdd, Nat.reduceMul, Int.reduceNeg, Int.reduceAdd, Int.reduceSub, Int.reduceMul, Int.reduceLT, Int.reduceLE, Int.reduceEq, Int.reduceDiv, Int.reduceMod, Int.reduceToNat, Int.toNat_zero, Int.toNat_one, Nat.reduceLeDiff, Nat.reduceLT, ite_not, not_true, not_false_eq_true] <;> omega) | omega))) | (with_reducible apply hs_t; (case h => (first | (simp (disch := (first | exact hz _ _ | exact hv _ | exact hL | assumption | (simp (disch := decide) only [zup_ne]; exact hL) | (simp only [zR]; omega) | omega)) only [zLit, zI_div, hI_fs, hI_us, zI_add, zI_sub, zI_mul, zI_neg, zI_lt, zI_eq, zI_ite, xbd_s, zI_nat, zld, zst, zbd, zB_0, zB_1, lenX_s, zup_at, xgd, cond_true, cond_false, and_self, and_true, true_and, false_and, and_false, or_self, or_false, false_or, if_true, if_false, ite_true, ite_false, reduceIte, reduceCtorEq, Nat.reduceEqDiff, Nat.reduceAdd, Nat.reduceMul, Int.reduceNeg, Int.reduceAdd, Int.reduceSub, Int.reduceMul, Int.reduceLT, Int.reduceLE, Int.reduceEq, Int.reduceDiv, Int.reduceMod, Int.reduceToNat, Int.toNat_zero, Int.toNat_one, Nat.reduceLeDiff, Nat.reduceLT, ite_not, not_true, not_false_eq_true] <;> omega) | omega))) | (with_reducible apply hs_b; (case h => (simp (disch := (first | exact hz _ _ | exact hv _ | exact hL | assumption | (simp (disch := decide) only [zup_ne]; exact hL) | (simp only [zR]; omega) | omega)) only [zLit, zI_div, hI_fs, hI_us, zI_add, zI_sub, zI_mul, zI_neg, zI_lt, zI_eq, zI_ite, xbd_s, zI_nat, zld, zst, zbd, zB_0, zB_1, lenX_s, zup_at, xgd, cond_true, cond_false, and_self, and_true, true_and, false_and, and_false, or_self, or_false, false_or, if_true, if_false, ite_true, ite_false, reduceIte, reduceCtorEq, Nat.reduceEqDiff, Nat.reduceAdd, Nat.reduceMul, Int.reduceNeg, Int.reduceAdd, Int.reduceSub, Int.reduceMul, Int.reduceLT, Int.reduceLE, Int.reduceEq, Int.reduceDiv, Int.reduceMod, Int.reduceToNat, Int.toNat_zero, Int.toNat_one, Nat.reduceLeDiff, Nat.reduceLT, ite_not, not_true, not_false_eq_true, m_within]; rfl)); try dsimp only) | (with_reducible apply hs_c <;> intro q9 <;> (try simp (disch := (first | exact hz _ _ | exact hv _ | exact hL | assumption | (simp (disch := decide) only [zup_ne]; exact hL) | (simp only [zR]; omega) | omega)) only [zLit, zI_div, hI_fs, hI_us, zI_add, zI_sub, zI_mul, zI_neg, zI_lt, zI_eq, zI_ite, xbd_s, zI_nat, zld, zst, zbd, zB_0, zB_1, lenX_s, zup_at, xgd, cond_true, cond_false, and_self, and_true, true_and, false_and, and_false, or_self, or_false, false_or, if_true, if_false, ite_true, ite_false, reduceIte, reduceCtorEq, Nat.reduceEqDiff, Nat.reduceAdd, Nat.reduceMul, Int.reduceNeg, Int.reduceAdd, Int.reduceSub, Int.reduceMul, Int.reduceLT, Int.reduceLE, Int.reduceEq, Int.reduceDiv, Int.reduceMod, Int.reduceToNat, Int.toNat_zero, Int.toNat_one, Nat.reduceLeDiff, Nat.reduceLT, ite_not, not_true, not_false_eq_true] at q9)))
      all_goals simp only [zLit]
      all_goals exact E2
  · refine two_ro hI0 (-1) (by simp only [zR]; omega) ?_ ?_
    · rw [e_X11_fair, show xF = 999999 + 1 from rfl, l_X11_fair_0]
      repeat' (first | (with_reducible apply hs_f; (case h => (first | (simp (disch := (first | exact hz _ _ | exact hv _ | exact hL | assumption | (simp (disch := decide) only [zup_ne]; exact hL) | (simp only [zR]; omega) | omega)) only [zLit, zI_div, hI_fs, hI_us, zI_add, zI_sub, zI_mul, zI_neg, zI_lt, zI_eq, zI_ite, xbd_s, zI_nat, zld, zst, zbd, zB_0, zB_1, lenX_s, zup_at, xgd, cond_true, cond_false, and_self, and_true, true_and, false_and, and_false, or_self, or_false, false_or, if_true, if_false, ite_true, ite_false, reduceIte, reduceCtorEq, Nat.reduceEqDiff, Nat.reduceAdd, Nat.reduceMul, Int.reduceNeg, Int.reduceAdd, Int.reduceSub, Int.reduceMul, Int.reduceLT, Int.reduceLE, Int.reduceEq, Int.reduceDiv, Int.reduceMod, Int.reduceToNat, Int.toNat_zero, Int.toNat_one, Nat.reduceLeDiff, Nat.reduceLT, ite_not, not_true, not_false_eq_true] <;> omega) | omega))) | (with_reducible apply hs_t; (case h => (first | (simp (disch := (first | exact hz _ _ | exact hv _ | exact hL | assumption | (simp (disch := decide) only [zup_ne]; exact hL) | (simp only [zR]; omega) | omega)) only [zLit, zI_div, hI_fs, hI_us, zI_add, zI_sub, zI_mul, zI_neg, zI_lt, zI_eq, zI_ite, xbd_s, zI_nat, zld, zst, zbd, zB_0, zB_1, lenX_s, zup_at, xgd, cond_true, cond_false, and_self, and_true, true_and, false_and, and_false, or_self, or_false, false_or, if_true, if_false, ite_true, ite_false, reduceIte, reduceCtorEq, Nat.reduceEqDiff, Nat.reduceAdd, Nat.reduceMul, Int.reduceNeg, Int.reduceAdd, Int.reduceSub, Int.reduceMul, Int.reduceLT, Int.reduceLE, Int.reduceEq, Int.reduceDiv, Int.reduceMod, Int.reduceToNat, Int.toNat_zero, Int.toNat_one, Nat.reduceLeDiff, Nat.reduceLT, ite_not, not_true, not_false_eq_true] <;> omega) | omega))) | (with_reducible apply hs_b; (case h => (simp (disch := (first | exact hz _ _ | exact hv _ | exact hL | assumption | (simp (disch := decide) only [zup_ne]; exact hL) | (simp only [zR]; omega) | omega)) only [zLit, zI_div, hI_fs, hI_us, zI_add, zI_sub, zI_mul, zI_neg, zI_lt, zI_eq, zI_ite, xbd_s, zI_nat, zld, zst, zbd, zB_0, zB_1, lenX_s, zup_at, xgd, cond_true, cond_false, and_self, and_true, true_and, false_and, and_false, or_self, or_false, false_or, if_true, if_false, ite_true, ite_false, reduceIte, reduceCtorEq, Nat.reduceEqDiff, Nat.reduceAdd, Nat.reduceMul, Int.reduceNeg, Int.reduceAdd, Int.reduceSub, Int.reduceMul, Int.reduceLT, Int.reduceLE, Int.reduceEq, Int.reduceDiv, Int.reduceMod, Int.reduceToNat, Int.toNat_zero, Int.toNat_one, Nat.reduceLeDiff, Nat.reduceLT, ite_not, not_true, not_false_eq_true, c_within]; rfl)); try dsimp only) | (with_reducible apply hs_c <;> intro q9 <;> (try simp (disch := (first | exact hz _ _ | exact hv _ | exact hL | assumption | (simp (disch := decide) only [zup_ne]; exact hL) | (simp only [zR]; omega) | omega)) only [zLit, zI_div, hI_fs, hI_us, zI_add, zI_sub, zI_mul, zI_neg, zI_lt, zI_eq, zI_ite, xbd_s, zI_nat, zld, zst, zbd, zB_0, zB_1, lenX_s, zup_at, xgd, cond_true, cond_false, and_self, and_true, true_and, false_and, and_false, or_self, or_false, false_or, if_true, if_false, ite_true, ite_false, reduceIte, reduceCtorEq, Nat.reduceEqDiff, Nat.reduceAdd, Nat.reduceMul, Int.reduceNeg, Int.reduceAdd, Int.reduceSub, Int.reduceMul, Int.reduceLT, Int.reduceLE, Int.reduceEq, Int.reduceDiv, Int.reduceMod, Int.reduceToNat, Int.toNat_zero, Int.toNat_one, Nat.reduceLeDiff, Nat.reduceLT, ite_not, not_true, not_false_eq_true] at q9)))
      all_goals first | rfl | omega | (simp (maxSteps := 3000000) (disch := (first | exact hz _ _ | exact hv _ | exact hL | assumption | (simp (disch := decide) only [zup_ne]; exact hL) | (simp only [zR]; omega) | omega)) only [zLit, zI_div, hI_fs, hI_us, zI_add, zI_sub, zI_mul, zI_neg, zI_lt, zI_eq, zI_ite, xbd_s, zI_nat, zld, zst, zbd, zB_0, zB_1, lenX_s, zup_at, xgd, cond_true, cond_false, and_self, and_true, true_and, false_and, and_false, or_self, or_false, false_or, if_true, if_false, ite_true, ite_false, reduceIte, reduceCtorEq, Nat.reduceEqDiff, Nat.reduceAdd, Nat.reduceMul, Int.reduceNeg, Int.reduceAdd, Int.reduceSub, Int.reduceMul, Int.reduceLT, Int.reduceLE, Int.reduceEq, Int.reduceDiv, Int.reduceMod, Int.reduceToNat, Int.toNat_zero, Int.toNat_one, Nat.reduceLeDiff, Nat.reduceLT, ite_not, not_true, not_false_eq_true]; done) | (simp (maxSteps := 3000000) (disch := (first | exact hz _ _ | exact hv _ | exact hL | assumption | (simp (disch := decide) only [zup_ne]; exact hL) | (simp only [zR]; omega) | omega)) only [zLit, zI_div, hI_fs, hI_us, zI_add, zI_sub, zI_mul, zI_neg, zI_lt, zI_eq, zI_ite, xbd_s, zI_nat, zld, zst, zbd, zB_0, zB_1, lenX_s, zup_at, xgd, cond_true, cond_false, and_self, and_true, true_and, false_and, and_false, or_self, or_false, false_or, if_true, if_false, ite_true, ite_false, reduceIte, reduceCtorEq, Nat.reduceEqDiff, Nat.reduceAdd, Nat.reduceMul, Int.reduceNeg, Int.reduceAdd, Int.reduceSub, Int.reduceMul, Int.reduceLT, Int.reduceLE, Int.reduceEq, Int.reduceDiv, Int.reduceMod, Int.reduceToNat, Int.toNat_zero, Int.toNat_one, Nat.reduceLeDiff, Nat.reduceLT, ite_not, not_true, not_false_eq_true]; rfl)
    · rw [e_X12_fair, show xF = 999999 + 1 from rfl, l_X12_fair_0]
      repeat' (first | (with_reducible apply hs_f; (case h => (first | (simp (disch := (first | exact hz _ _ | exact hv _ | exact hL | assumption | (simp (disch := decide) only [zup_ne]; exact hL) | (simp only [zR]; omega) | omega)) only [zLit, zI_div, hI_fs, hI_us, zI_add, zI_sub, zI_mul, zI_neg, zI_lt, zI_eq, zI_ite, xbd_s, zI_nat, zld, zst, zbd, zB_0, zB_1, lenX_s, zup_at, xgd, cond_true, cond_false, and_self, and_true, true_and, false_and, and_false, or_self, or_false, false_or, if_true, if_false, ite_true, ite_false, reduceIte, reduceCtorEq, Nat.reduceEqDiff, Nat.reduceAdd, Nat.reduceMul, Int.reduceNeg, Int.reduceAdd, Int.reduceSub, Int.reduceMul, Int.reduceLT, Int.reduceLE, Int.reduceEq, Int.reduceDiv, Int.reduceMod, Int.reduceToNat, Int.toNat_zero, Int.toNat_one, Nat.reduceLeDiff, Nat.reduceLT, ite_not, not_true, not_false_eq_true] <;> omega) | omega))) | (with_reducible apply hs_t; (case h => (first | (simp (disch := (first | exact hz _ _ | exact hv _ | exact hL | assumption | (simp (disch := decide) only [zup_ne]; exact hL) | (simp only [zR]; omega) | omega)) only [zLit, zI_div, hI_fs, hI_us, zI_add, zI_sub, zI_mul, zI_neg, zI_lt, zI_eq, zI_ite, xbd_s, zI_nat, zld, zst, zbd, zB_0, zB_1, lenX_s, zup_at, xgd, cond_true, cond_false, and_self, and_true, true_and, false_and, and_false, or_self, or_false, false_or, if_true, if_false, ite_true, ite_false, reduceIte, reduceCtorEq, Nat.reduceEqDiff, Nat.reduceAdd, Nat.reduceMul, Int.reduceNeg, Int.reduceAdd, Int.reduceSub, Int.reduceMul, Int.reduceLT, Int.reduceLE, Int.reduceEq, Int.reduceDiv, Int.reduceMod, Int.reduceToNat, Int.toNat_zero, Int.toNat_one, Nat.reduceLeDiff, Nat.reduceLT, ite_not, not_true, not_false_eq_true] <;> omega) | omega))) | (with_reducible apply hs_b; (case h => (simp (disch := (first | exact hz _ _ | exact hv _ | exact hL | assumption | (simp (disch := decide) only [zup_ne]; exact hL) | (simp only [zR]; omega) | omega)) only [zLit, zI_div, hI_fs, hI_us, zI_add, zI_sub, zI_mul, zI_neg, zI_lt, zI_eq, zI_ite, xbd_s, zI_nat, zld, zst, zbd, zB_0, zB_1, lenX_s, zup_at, xgd, cond_true, cond_false, and_self, and_true, true_and, false_and, and_false, or_self, or_false, false_or, if_true, if_false, ite_true, ite_false, reduceIte, reduceCtorEq, Nat.reduceEqDiff, Nat.reduceAdd, Nat.reduceMul, Int.reduceNeg, Int.reduceAdd, Int.reduceSub, Int.reduceMul, Int.reduceLT, Int.reduceLE, Int.reduceEq, Int.reduceDiv, Int.reduceMod, Int.reduceToNat, Int.toNat_zero, Int.toNat_one, Nat.reduceLeDiff, Nat.reduceLT, ite_not, not_true, not_false_eq_true, m_within]; rfl)); try dsimp only) | (with_reducible apply hs_c <;> intro q9 <;> (try simp (disch := (first | exact hz _ _ | exact hv _ | exact hL | assumption | (simp (disch := decide) only [zup_ne]; exact hL) | (simp only [zR]; omega) | omega)) only [zLit, zI_div, hI_fs, hI_us, zI_add, zI_sub, zI_mul, zI_neg, zI_lt, zI_eq, zI_ite, xbd_s, zI_nat, zld, zst, zbd, zB_0, zB_1, lenX_s, zup_at, xgd, cond_true, cond_false, and_self, and_true, true_and, false_and, and_false, or_self, or_false, false_or, if_true, if_false, ite_true, ite_false, reduceIte, reduceCtorEq, Nat.reduceEqDiff, Nat.reduceAdd, Nat.reduceMul, Int.reduceNeg, Int.reduceAdd, Int.reduceSub, Int.reduceMul, Int.reduceLT, Int.reduceLE, Int.reduceEq, Int.reduceDiv, Int.reduceMod, Int.reduceToNat, Int.toNat_zero, Int.toNat_one, Nat.reduceLeDiff, Nat.reduceLT, ite_not, not_true, not_false_eq_true] at q9)))
      all_goals first | rfl | omega | (simp (maxSteps := 3000000) (disch := (first | exact hz _ _ | exact hv _ | exact hL | assumption | (simp (disch := decide) only [zup_ne]; exact hL) | (simp only [zR]; omega) | omega)) only [zLit, zI_div, hI_fs, hI_us, zI_add, zI_sub, zI_mul, zI_neg, zI_lt, zI_eq, zI_ite, xbd_s, zI_nat, zld, zst, zbd, zB_0, zB_1, lenX_s, zup_at, xgd, cond_true, cond_false, and_self, and_true, true_and, false_and, and_false, or_self, or_false, false_or, if_true, if_false, ite_true, ite_false, reduceIte, reduceCtorEq, Nat.reduceEqDiff, Nat.reduceAdd, Nat.reduceMul, Int.reduceNeg, Int.reduceAdd, Int.reduceSub, Int.reduceMul, Int.reduceLT, Int.reduceLE, Int.reduceEq, Int.reduceDiv, Int.reduceMod, Int.reduceToNat, Int.toNat_zero, Int.toNat_one, Nat.reduceLeDiff, Nat.reduceLT, ite_not, not_true, not_false_eq_true]; done) | (simp (maxSteps := 3000000) (disch := (first | exact hz _ _ | exact hv _ | exact hL | assumption | (simp (disch := decide) only [zup_ne]; exact hL) | (simp only [zR]; omega) | omega)) only [zLit, zI_div, hI_fs, hI_us, zI_add, zI_sub, zI_mul, zI_neg, zI_lt, zI_eq, zI_ite, xbd_s, zI_nat, zld, zst, zbd, zB_0, zB_1, lenX_s, zup_at, xgd, cond_true, cond_false, and_self, and_true, true_and, false_and, and_false, or_self, or_false, false_or, if_true, if_false, ite_true, ite_false, reduceIte, reduceCtorEq, Nat.reduceEqDiff, Nat.reduceAdd, Nat.reduceMul, Int.reduceNeg, Int.reduceAdd, Int.reduceSub, Int.reduceMul, Int.reduceLT, Int.reduceLE, Int.reduceEq, Int.reduceDiv, Int.reduceMod, Int.reduceToNat, Int.toNat_zero, Int.toNat_one, Nat.reduceLeDiff, Nat.reduceLT, ite_not, not_true, not_false_eq_true]; rfl)
/-! work for two -/
def spBit (s i : Int) : Int := s / 2 ^ i.toNat % 2
theorem bitL : ∀ s : Fin 256, ∀ i : Fin 8, (zI (s.val : Int) >>> (zI (i.val : Int) &&& zI 31)) &&& zI 1 = zI (spBit (s.val : Int) (i.val : Int)) := by decide +kernel
theorem bit_I {s i : Int} (hs : 0 ≤ s ∧ s < 256) (hi : 0 ≤ i ∧ i < 8) : (zI s >>> (zI i &&& zI 31)) &&& zI 1 = zI (spBit s i) := by
  have h := bitL ⟨s.toNat, by omega⟩ ⟨i.toNat, by omega⟩
  simp only [Int.toNat_of_nonneg hs.1, Int.toNat_of_nonneg hi.1] at h
  exact h
theorem powL : ∀ i : Fin 9, zI 1 <<< (zI (i.val : Int) &&& zI 31) = zI (2 ^ i.val) := by decide +kernel
theorem pow_I {i : Int} (hi : 0 ≤ i ∧ i ≤ 8) : zI 1 <<< (zI i &&& zI 31) = zI (2 ^ i.toNat) := by
  have h := powL ⟨i.toNat, by omega⟩
  simp only [Int.toNat_of_nonneg hi.1] at h
  exact h
theorem pow_b {n : Nat} (h : n ≤ 8) : (1 : Int) ≤ 2 ^ n ∧ (2 : Int) ^ n ≤ 256 := by
  have : ∀ i : Fin 9, (1 : Int) ≤ 2 ^ i.val ∧ (2 : Int) ^ i.val ≤ 256 := by decide
  exact this ⟨n, by omega⟩
theorem spBit_b (s i : Int) : spBit s i = 0 ∨ spBit s i = 1 := by
  unfold spBit
  omega
def spMine (v : Int → Int) (set j : Int) : Int := spBit set j * v (504 + j)
def spThem (v : Int → Int) (set j : Int) : Int := (1 - spBit set j) * v (504 + j)
theorem spSum_add (f g : Int → Int) : ∀ (m : Nat) (e a b : Int), spSum f m e a + spSum g m e b = spSum (fun k => f k + g k) m e (a + b) := by
  intro m
  induction m with
  | zero => intro e a b; rfl
  | succ m ih =>
    intro e a b
    rw [spSum, spSum, spSum, ih]
    congr 1
    omega
theorem spMT (v : Int → Int) (set : Int) : (fun k => spMine v set k + spThem v set k) = fun k => v (504 + k) := by
  funext k
  unfold spMine spThem
  rw [← Int.add_mul, show spBit set k + (1 - spBit set k) = 1 by omega, Int.one_mul]
/-- the sum of a set of rows -/
theorem c_setSum_l (d : Nat) {z : zH} (hz : zRR z) {v : Int → Int} {o : Nat} {m w c b : Int} (hR : RRows o m w c b z v) (hm8 : m ≤ 8) {f set : Int} (hset : 0 ≤ set ∧ set < 256) (hf : 0 ≤ f ∧ f < w) (hl : m * w = (lenX (o + 1) : Int)) (hs : m * w < 2147483648) : ∀ (j : Nat) (e a : Int), 0 ≤ e → e + j = v c → ∀ n, j < n → r_X7_sumOfSet (d + 2) n 5 [some (xR 23 o), some (xI (zI set)), some (xI (zI f)), some (xI (zI a)), some (xI (zI e))] [] (hI z) = some (zI (spSum (fun e => spBit set e * v (b + (e * w + f))) j e a), hI z) := by
  have h3 := hR.2.2.1
  have h4 := hR.2.2.2.1
  intro j
  induction j with
  | zero =>
    intro e a h0 h1 n hn
    obtain ⟨n, rfl⟩ := Nat.exists_eq_succ_of_ne_zero (show n ≠ 0 by omega)
    rw [l_X7_sumOfSet_5]
    simp only [hI_fs, h3]
    rw [if_neg (by rw [zI_lt (zR_s (by omega)) (zR_s (by omega))]; omega)]
    rfl
  | succ j ih =>
    intro e a h0 h1 n hn
    obtain ⟨n, rfl⟩ := Nat.exists_eq_succ_of_ne_zero (show n ≠ 0 by omega)
    have cn := c_rowN d hz hR (e := e) (f := f) ⟨h0, by omega⟩ hf hl hs
    have hb := spBit_b set e
    have hx := fun a => ih (e + 1) a (by omega) (by omega) n (by omega)
    rw [l_X7_sumOfSet_5, spSum]
    simp only [hI_fs, h3, zLit, bit_I hset (show 0 ≤ e ∧ e < 8 by omega), zI_add]
    rw [if_pos (by rw [zI_lt (zR_s (by omega)) (zR_s (by omega))]; omega)]
    rcases hb with hb | hb
    · rw [if_neg (by rw [hb]; decide), hb, Int.zero_mul, Int.add_zero]
      exact hx a
    · rw [if_pos (by rw [hb]), hb, Int.one_mul]
      simp only [cn, xbd_n, zI_add]
      exact hx _
theorem c_setSum (d : Nat) {z : zH} (hz : zRR z) {v : Int → Int} {o : Nat} {m w c b : Int} (hR : RRows o m w c b z v) (hm8 : m ≤ 8) {f set : Int} (hset : 0 ≤ set ∧ set < 256) (hf : 0 ≤ f ∧ f < w) (hl : m * w = (lenX (o + 1) : Int)) (hs : m * w < 2147483648) : cM (d + 3) 60 [xR 23 o, xI (zI set), xI (zI f)] (hI z) = some (zI (spSum (fun e => spBit set e * v (b + (e * w + f))) (v c).toNat 0 0), hI z) := by
  have h4 := hR.2.2.2.1
  rw [e_X7_sumOfSet, show xF = 999999 + 1 from rfl, l_X7_sumOfSet_0]
  simp only [zLit]
  exact c_setSum_l d hz hR hm8 hset hf hl hs (v c).toNat 0 0 (by omega) (by omega) 999999 (by omega)
abbrev spM (v : Int → Int) (set : Int) : Int := spSum (spMine v set) (v 12).toNat 0 0
abbrev spJ (v : Int → Int) : Int := spSum (fun k => v (504 + k)) (v 12).toNat 0 0
def spDone (v : Int → Int) (set : Int) : Int := if spM v set < spJ v - spM v set then spJ v - spM v set else spM v set
def spSh (D : Int → Int) : Nat → Int → Int → Int → Int × Int
  | 0, _, e, b => (e, b)
  | m + 1, s, e, b => if D s < e then spSh D m (s + 1) (D s) s else spSh D m (s + 1) e b
theorem spJ_b {z : zH} {v : Int → Int} (hJ : PJobs 19 z v) : 0 ≤ spJ v ∧ spJ v ≤ 400 := by
  have h4 := hJ.1.2.2.2.1
  have b := spSum_b (f := fun k => v (504 + k)) (lo := 0) (hi := 50) (v 12).toNat 0 0 (fun k k0 k1 => by have := hJ.2 k k0 (by omega); omega)
  have e : ((v 12).toNat : Int) = v 12 := Int.toNat_of_nonneg h4.1
  rw [e] at b
  show 0 ≤ spSum (fun k => v (504 + k)) (v 12).toNat 0 0 ∧ spSum (fun k => v (504 + k)) (v 12).toNat 0 0 ≤ 400
  omega
theorem spM_b {z : zH} {v : Int → Int} (hJ : PJobs 19 z v) (set : Int) : 0 ≤ spM v set ∧ spM v set ≤ 400 := by
  have h4 := hJ.1.2.2.2.1
  have b := spSum_b (f := spMine v set) (lo := 0) (hi := 50) (v 12).toNat 0 0 (fun k k0 k1 => by
    have := hJ.2 k k0 (by omega)
    unfold spMine
    rcases spBit_b set k with q | q <;> rw [q]
    · omega
    · omega)
  have e : ((v 12).toNat : Int) = v 12 := Int.toNat_of_nonneg h4.1
  rw [e] at b
  show 0 ≤ spSum (spMine v set) (v 12).toNat 0 0 ∧ spSum (spMine v set) (v 12).toNat 0 0 ≤ 400
  omega
theorem spDone_b {z : zH} {v : Int → Int} (hJ : PJobs 19 z v) (set : Int) : -400 ≤ spDone v set ∧ spDone v set ≤ 400 := by
  have := spJ_b hJ
  have := spM_b hJ set
  unfold spDone
  split <;> omega
theorem c_shared_l (d : Nat) {z : zH} (hz : zRR z) {v : Int → Int} (hJ : PJobs 19 z v) {w : Int} (hw : w = 0 ∨ w = 1) : ∀ (m : Nat) (s e b : Int), 0 ≤ s → s + m = 2 ^ (v 12).toNat → (-400 ≤ e ∧ e ≤ 400) → (0 ≤ b ∧ b ≤ 256) → ∀ n, m < n → r_X11_shared (d + 3) n 31 [some (xR 27 0), some (xI (zI w)), some (xI (zI (spJ v))), some (xI (zI e)), some (xI (zI b)), some (xI (zI s)), none, none] [] (hI z) = some (zI (if w = 0 then (spSh (spDone v) m s e b).1 else (spSh (spDone v) m s e b).2), hI z) := by
  have h3 : z 19 3 = v 12 := hJ.1.2.2.1
  have h4 := hJ.1.2.2.2.1
  have pb := pow_b (n := (v 12).toNat) (by omega)
  have jb := spJ_b hJ
  intro m
  induction m with
  | zero =>
    intro s e b s0 s1 he hb n hn
    obtain ⟨n, rfl⟩ := Nat.exists_eq_succ_of_ne_zero (show n ≠ 0 by omega)
    rw [l_X11_shared_31]
    simp only [hI_fs, h3, zLit, pow_I h4]
    rw [if_neg (by rw [zI_lt (zR_s (by omega)) (zR_s (by omega))]; omega)]
    rcases hw with q | q <;> subst q
    · rw [if_pos rfl, if_pos rfl]; rfl
    · rw [if_neg (by decide), if_neg (by omega)]; rfl
  | succ m ih =>
    intro s e b s0 s1 he hb n hn
    obtain ⟨n, rfl⟩ := Nat.exists_eq_succ_of_ne_zero (show n ≠ 0 by omega)
    have mb := spM_b hJ s
    have db := spDone_b hJ s
    have cs := fun d => c_setSum d hz hJ.1 (by omega) (f := 0) (set := s) ⟨s0, by omega⟩ (by omega) (by simp only [Nat.reduceAdd, lenX_s]; rfl) (by omega)
    have e2 : (fun e => spBit s e * v (504 + (e * 1 + 0))) = spMine v s := by
      funext k
      unfold spMine
      rw [show (504 : Int) + (k * 1 + 0) = 504 + k by omega]
    simp only [e2] at cs
    have hx := fun e b he hb => ih (s + 1) e b (by omega) (by omega) he hb n (by omega)
    have hD : (if zI (spM v s) < zI (spJ v - spM v s) then zI (spJ v - spM v s) else zI (spM v s)) = zI (spDone v s) := by rw [zI_ilt (zR_s (by omega)) (zR_s (by omega))]; rfl
    rw [l_X11_shared_31, spSh]
    simp only [hI_fs, h3, zLit, pow_I h4, zI_add]
    rw [if_pos (by rw [zI_lt (zR_s (by omega)) (zR_s (by omega))]; omega)]
    simp only [cs, xbd_n, zI_sub, hD]
    by_cases q : spDone v s < e
    · rw [if_pos (by rw [zI_lt (zR_s (by omega)) (zR_s (by omega))]; exact q), if_pos q]
      exact hx _ _ db (by omega)
    · rw [if_neg (by rw [zI_lt (zR_s (by omega)) (zR_s (by omega))]; exact q), if_neg q]
      exact hx _ _ he hb
theorem m_shared41 (d : Nat) {z : zH} (hz : zRR z) {z0 : zH} (hJ : PJobs 19 z0 (z 101)) {w : Int} {s e b : Int} (hs : 0 ≤ s ∧ s < 256) (he : zR e) (hbr : zR b) : ∀ (m : Nat) (j A B : Int), 0 ≤ j → j + m = z 101 12 → (0 ≤ A ∧ A ≤ 50 * j) → (0 ≤ B ∧ B ≤ 50 * j) → ∀ n, r_X12_shared d (n + m + 1) 41 [some (xR 28 100), some (xI (zI w)), some (xI (zI b)), some (xI (zI e)), some (xI (zI s)), some (xI (zI A)), some (xI (zI B)), some (xI (zI j))] [] (hI z) = if b < 0 ∨ (if spSum (spMine (z 101) s) m j A < spSum (spThem (z 101) s) m j B then spSum (spThem (z 101) s) m j B else spSum (spMine (z 101) s) m j A) < e then r_X12_shared d n 18 [some (xR 28 100), some (xI (zI w)), some (xI (zI s)), some (xI (zI (if spSum (spMine (z 101) s) m j A < spSum (spThem (z 101) s) m j B then spSum (spThem (z 101) s) m j B else spSum (spMine (z 101) s) m j A))), some (xI (zI (s + 1))), none, none, none] [] (hI z) else r_X12_shared d n 18 [some (xR 28 100), some (xI (zI w)), some (xI (zI b)), some (xI (zI e)), some (xI (zI (s + 1))), none, none, none] [] (hI z) := by
  have h4 := hJ.1.2.2.2.1
  have h12 : zR 12 := zR_s (by omega)
  have h0r : zR 0 := zR_s (by omega)
  intro m
  induction m with
  | zero =>
    intro j A B j0 j1 hA hB n
    rw [Nat.add_zero, l_X12_shared_41, spSum, spSum]
    simp only [zLit, lenX_s, zI_nat h12, zld (show (0 : Int) ≤ 12 by omega), zI_add, zI_ilt (zR_s (show -1000000 ≤ A ∧ A ≤ 1000000 by omega)) (zR_s (show -1000000 ≤ B ∧ B ≤ 1000000 by omega))]
    rw [if_neg (by rw [zI_lt h12 h0r]; omega), if_neg (by rw [zI_lt (zR_s (by omega)) (zR_s (by omega))]; omega)]
    have hM : zR (if A < B then B else A) := by split <;> exact zR_s (by omega)
    generalize (if A < B then B else A) = M at *
    by_cases q : b < 0
    · rw [if_pos (by rw [zI_lt hbr h0r]; exact q), if_pos (Or.inl q)]
    · rw [if_neg (by rw [zI_lt hbr h0r]; exact q)]
      by_cases q2 : M < e
      · rw [if_pos (by rw [zI_lt hM he]; exact q2), if_pos (Or.inr q2)]
      · rw [if_neg (by rw [zI_lt hM he]; exact q2), if_neg (by omega)]
  | succ m ih =>
    intro j A B j0 j1 hA hB n
    have w0 := hJ.2 j j0 (by omega)
    have hb := spBit_b s j
    have jr : zR (504 + j) := zR_s (by omega)
    have bj : ¬ (zI (504 + j) < zI 0 ∨ 572 ≤ (zI (504 + j)).toNatClampNeg) := by rw [zI_lt jr h0r, zI_nat jr]; omega
    have ej : hI z 101 (zI (504 + j)).toNatClampNeg = zI (z 101 (504 + j)) := by rw [zI_nat jr, zld (by omega)]
    have hx := ih (j + 1) (A + spMine (z 101) s j) (B + spThem (z 101) s j) (by omega) (by omega) (by unfold spMine; rcases hb with q | q <;> rw [q] <;> omega) (by unfold spThem; rcases hb with q | q <;> rw [q] <;> omega) n
    rw [← Nat.add_assoc, l_X12_shared_41, spSum, spSum]
    simp only [zLit, lenX_s, zI_nat h12, zld (show (0 : Int) ≤ 12 by omega), zI_add, bit_I hs (show 0 ≤ j ∧ j < 8 by omega), if_neg bj, ej, zI_mul, zI_sub]
    rw [if_neg (by rw [zI_lt h12 h0r]; omega), if_pos (by rw [zI_lt (zR_s (by omega)) (zR_s (by omega))]; omega)]
    exact hx
theorem m_shared_l (d : Nat) {z : zH} (hz : zRR z) {z0 : zH} (hJ : PJobs 19 z0 (z 101)) {w : Int} (hw : w = 0 ∨ w = 1) : ∀ (m : Nat) (s e b : Int), 0 ≤ s → s + m = 2 ^ (z 101 12).toNat → (-400 ≤ e ∧ e ≤ 400) → (0 ≤ b ∧ b ≤ 256) → ∀ n, 11 * m < n → r_X12_shared d n 18 [some (xR 28 100), some (xI (zI w)), some (xI (zI b)), some (xI (zI e)), some (xI (zI s)), none, none, none] [] (hI z) = some (zI (if w = 0 then (spSh (spDone (z 101)) m s e b).1 else (spSh (spDone (z 101)) m s e b).2), hI z) := by
  have h4 := hJ.1.2.2.2.1
  have pb := pow_b (n := (z 101 12).toNat) (by omega)
  have h12 : zR 12 := zR_s (by omega)
  have h0r : zR 0 := zR_s (by omega)
  intro m
  induction m with
  | zero =>
    intro s e b s0 s1 he hb n hn
    obtain ⟨n, rfl⟩ := Nat.exists_eq_succ_of_ne_zero (show n ≠ 0 by omega)
    rw [l_X12_shared_18]
    simp only [zLit, lenX_s, zI_nat h12, zld (show (0 : Int) ≤ 12 by omega), pow_I h4]
    rw [if_neg (by rw [zI_lt h12 h0r]; omega), if_neg (by rw [zI_lt (zR_s (by omega)) (zR_s (by omega))]; omega)]
    rcases hw with q | q <;> subst q
    · rw [if_pos rfl, if_pos rfl]; rfl
    · rw [if_neg (by decide), if_neg (by omega)]; rfl
  | succ m ih =>
    intro s e b s0 s1 he hb n hn
    obtain ⟨n, rfl⟩ : ∃ k, n = k + (z 101 12).toNat + 1 + 1 := ⟨n - (z 101 12).toNat - 2, by omega⟩
    have db := spDone_b hJ s
    have hx := fun e b he hb => ih (s + 1) e b (by omega) (by omega) he hb n (by omega)
    have m41 := m_shared41 d hz hJ (w := w) (s := s) (e := e) (b := b) ⟨s0, by omega⟩ (zR_s (by omega)) (zR_s (by omega)) (z 101 12).toNat 0 0 0 (by omega) (by omega) (by omega) (by omega) n
    have eT : spSum (spThem (z 101) s) (z 101 12).toNat 0 0 = spJ (z 101) - spM (z 101) s := by
      have := spSum_add (spMine (z 101) s) (spThem (z 101) s) (z 101 12).toNat 0 0 0
      rw [spMT] at this
      show _ = spSum (fun k => z 101 (504 + k)) (z 101 12).toNat 0 0 - spSum (spMine (z 101) s) (z 101 12).toNat 0 0
      rw [show (0 : Int) + 0 = 0 from rfl] at this
      omega
    rw [eT] at m41
    have eD : (if spSum (spMine (z 101) s) (z 101 12).toNat 0 0 < spJ (z 101) - spM (z 101) s then spJ (z 101) - spM (z 101) s else spSum (spMine (z 101) s) (z 101 12).toNat 0 0) = spDone (z 101) s := rfl
    rw [eD] at m41
    rw [l_X12_shared_18, spSh]
    simp only [zLit, lenX_s, zI_nat h12, zld (show (0 : Int) ≤ 12 by omega), pow_I h4]
    rw [if_neg (by rw [zI_lt h12 h0r]; omega), if_pos (by rw [zI_lt (zR_s (by omega)) (zR_s (by omega))]; omega), m41]
    by_cases q : spDone (z 101) s < e
    · rw [if_pos (Or.inr q), if_pos q]
      exact hx _ _ db (by omega)
    · rw [if_neg (by omega), if_neg q]
      exact hx _ _ he hb
theorem k_shared {z : zH} (h : Inv z) {w : Int} (hw : zR w) : two 133 239 [xI (zI w)] z := by
  have hI0 := h
  obtain ⟨hz, hW, hK, hT, hO, hSh, hF, hCt⟩ := h
  have hJ : PJobs 19 z (z 101) := hW.2.2.2.2.2.2.2.1
  have h4 := hJ.1.2.2.2.1
  have pb := pow_b (n := (z 101 12).toNat) (by omega)
  have jb := spJ_b hJ
  by_cases q : 0 ≤ w ∧ w ≤ 1
  · have cj := fun d => c_sum d hz hJ.1 (f := 0) (by omega) (by simp only [Nat.reduceAdd, lenX_s]; rfl) (by omega) (by omega)
    have e2 : (fun e => z 101 (504 + (e * 1 + 0))) = fun k => z 101 (504 + k) := by
      funext k
      rw [show (504 : Int) + (k * 1 + 0) = 504 + k by omega]
    simp only [e2] at cj
    have ww : w = 0 ∨ w = 1 := by omega
    obtain ⟨N, hN⟩ : ∃ N : Nat, (N : Int) + 1 = 2 ^ (z 101 12).toNat := ⟨(2 ^ (z 101 12).toNat - 1 : Int).toNat, by omega⟩
    have d0 : spM (z 101) 0 = 0 := by
      have b := spSum_b (f := spMine (z 101) 0) (lo := 0) (hi := 0) (z 101 12).toNat 0 0 (fun k k0 k1 => by
        unfold spMine
        have : spBit 0 k = 0 := by unfold spBit; simp
        rw [this]; simp)
      show spSum (spMine (z 101) 0) (z 101 12).toNat 0 0 = 0
      simp only [Int.mul_zero, Int.add_zero] at b
      omega
    have dd : spDone (z 101) 0 = spJ (z 101) := by
      unfold spDone
      rw [d0, Int.sub_zero]
      split <;> omega
    have E1 := c_shared_l 56 hz hJ ww (N + 1) 0 (spJ (z 101)) 0 (by omega) (by omega) (by omega) (by omega) 999999 (by omega)
    have E2 := m_shared_l 59 hz hJ ww N 1 (spJ (z 101)) 0 (by omega) (by omega) (by omega) (by omega) (999997 - (z 101 12).toNat) (by omega)
    have m41 := m_shared41 59 hz hJ (w := w) (s := 0) (e := 0) (b := -1) ⟨by omega, by omega⟩ (zR_s (by omega)) (zR_s (by omega)) (z 101 12).toNat 0 0 0 (by omega) (by omega) (by omega) (by omega) (999997 - (z 101 12).toNat)
    have eT : spSum (spThem (z 101) 0) (z 101 12).toNat 0 0 = spJ (z 101) - spM (z 101) 0 := by
      have := spSum_add (spMine (z 101) 0) (spThem (z 101) 0) (z 101 12).toNat 0 0 0
      rw [spMT] at this
      show _ = spSum (fun k => z 101 (504 + k)) (z 101 12).toNat 0 0 - spSum (spMine (z 101) 0) (z 101 12).toNat 0 0
      rw [show (0 : Int) + 0 = 0 from rfl] at this
      omega
    rw [eT] at m41
    have eD : (if spSum (spMine (z 101) 0) (z 101 12).toNat 0 0 < spJ (z 101) - spM (z 101) 0 then spJ (z 101) - spM (z 101) 0 else spSum (spMine (z 101) 0) (z 101 12).toNat 0 0) = spDone (z 101) 0 := rfl
    rw [eD, dd, if_pos (Or.inl (by omega)), show 999997 - (z 101 12).toNat + (z 101 12).toNat + 1 = 999998 by omega, show (0 : Int) + 1 = 1 from rfl, E2] at m41
    have e0 : spSh (spDone (z 101)) (N + 1) 0 (spJ (z 101)) 0 = spSh (spDone (z 101)) N 1 (spJ (z 101)) 0 := by
      rw [spSh, dd, if_neg (by omega), show (0 : Int) + 1 = 1 from rfl]
    rw [e0] at E1
    have rb : ∀ (m : Nat) (s e b : Int), (-400 ≤ e ∧ e ≤ 400) → (0 ≤ b ∧ b + m ≤ 600 ∧ 0 ≤ s ∧ s + m ≤ 600) → (-400 ≤ (spSh (spDone (z 101)) m s e b).1 ∧ (spSh (spDone (z 101)) m s e b).1 ≤ 400) ∧ (0 ≤ (spSh (spDone (z 101)) m s e b).2 ∧ (spSh (spDone (z 101)) m s e b).2 ≤ 600) := by
      intro m
      induction m with
      | zero => intro s e b he hb; rw [spSh]; exact ⟨he, by omega⟩
      | succ m ih =>
        intro s e b he hb
        rw [spSh]
        split
        · exact ih _ _ _ (spDone_b hJ s) (by omega)
        · exact ih _ _ _ he (by omega)
    have rr := rb N 1 (spJ (z 101)) 0 (by omega) (by omega)
    refine two_ro hI0 (if w = 0 then (spSh (spDone (z 101)) N 1 (spJ (z 101)) 0).1 else (spSh (spDone (z 101)) N 1 (spJ (z 101)) 0).2) (by split <;> exact zR_s (by omega)) ?_ ?_
    · rw [e_X11_shared, show xF = 999999 + 1 from rfl, l_X11_shared_0]
      repeat' (first | (with_reducible apply hs_f; (case h => (first | (simp (disch := (first | exact hz _ _ | exact hv _ | exact hL | assumption | (simp (disch := decide) only [zup_ne]; exact hL) | (simp only [zR]; omega) | omega)) only [zLit, zI_div, hI_fs, hI_us, zI_add, zI_sub, zI_mul, zI_neg, zI_lt, zI_eq, zI_ite, xbd_s, zI_nat, zld, zst, zbd, zB_0, zB_1, lenX_s, zup_at, xgd, cond_true, cond_false, and_self, and_true, true_and, false_and, and_false, or_self, or_false, false_or, if_true, if_false, ite_true, ite_false, reduceIte, reduceCtorEq, Nat.reduceEqDiff, Nat.reduceAdd, Nat.reduceMul, Int.reduceNeg, Int.reduceAdd, Int.reduceSub, Int.reduceMul, Int.reduceLT, Int.reduceLE, Int.reduceEq, Int.reduceDiv, Int.reduceMod, Int.reduceToNat, Int.toNat_zero, Int.toNat_one, Nat.reduceLeDiff, Nat.reduceLT, ite_not, not_true, not_false_eq_true] <;> omega) | omega))) | (with_reducible apply hs_t; (case h => (first | (simp (disch := (first | exact hz _ _ | exact hv _ | exact hL | assumption | (simp (disch := decide) only [zup_ne]; exact hL) | (simp only [zR]; omega) | omega)) only [zLit, zI_div, hI_fs, hI_us, zI_add, zI_sub, zI_mul, zI_neg, zI_lt, zI_eq, zI_ite, xbd_s, zI_nat, zld, zst, zbd, zB_0, zB_1, lenX_s, zup_at, xgd, cond_true, cond_false, and_self, and_true, true_and, false_and, and_false, or_self, or_false, false_or, if_true, if_false, ite_true, ite_false, reduceIte, reduceCtorEq, Nat.reduceEqDiff, Nat.reduceAdd, Nat.reduceMul, Int.reduceNeg, Int.reduceAdd, Int.reduceSub, Int.reduceMul, Int.reduceLT, Int.reduceLE, Int.reduceEq, Int.reduceDiv, Int.reduceMod, Int.reduceToNat, Int.toNat_zero, Int.toNat_one, Nat.reduceLeDiff, Nat.reduceLT, ite_not, not_true, not_false_eq_true] <;> omega) | omega))) | (with_reducible apply hs_b; (case h => (simp (disch := (first | exact hz _ _ | exact hv _ | exact hL | assumption | (simp (disch := decide) only [zup_ne]; exact hL) | (simp only [zR]; omega) | omega)) only [zLit, zI_div, hI_fs, hI_us, zI_add, zI_sub, zI_mul, zI_neg, zI_lt, zI_eq, zI_ite, xbd_s, zI_nat, zld, zst, zbd, zB_0, zB_1, lenX_s, zup_at, xgd, cond_true, cond_false, and_self, and_true, true_and, false_and, and_false, or_self, or_false, false_or, if_true, if_false, ite_true, ite_false, reduceIte, reduceCtorEq, Nat.reduceEqDiff, Nat.reduceAdd, Nat.reduceMul, Int.reduceNeg, Int.reduceAdd, Int.reduceSub, Int.reduceMul, Int.reduceLT, Int.reduceLE, Int.reduceEq, Int.reduceDiv, Int.reduceMod, Int.reduceToNat, Int.toNat_zero, Int.toNat_one, Nat.reduceLeDiff, Nat.reduceLT, ite_not, not_true, not_false_eq_true, c_within]; rfl)); try dsimp only) | (with_reducible apply hs_c <;> intro q9 <;> (try simp (disch := (first | exact hz _ _ | exact hv _ | exact hL | assumption | (simp (disch := decide) only [zup_ne]; exact hL) | (simp only [zR]; omega) | omega)) only [zLit, zI_div, hI_fs, hI_us, zI_add, zI_sub, zI_mul, zI_neg, zI_lt, zI_eq, zI_ite, xbd_s, zI_nat, zld, zst, zbd, zB_0, zB_1, lenX_s, zup_at, xgd, cond_true, cond_false, and_self, and_true, true_and, false_and, and_false, or_self, or_false, false_or, if_true, if_false, ite_true, ite_false, reduceIte, reduceCtorEq, Nat.reduceEqDiff, Nat.reduceAdd, Nat.reduceMul, Int.reduceNeg, Int.reduceAdd, Int.reduceSub, Int.reduceMul, Int.reduceLT, Int.reduceLE, Int.reduceEq, Int.reduceDiv, Int.reduceMod, Int.reduceToNat, Int.toNat_zero, Int.toNat_one, Nat.reduceLeDiff, Nat.reduceLT, ite_not, not_true, not_false_eq_true] at q9)))
      simp only [zLit, cj, xbd_n]
      exact E1
    · rw [e_X12_shared, show xF = 999999 + 1 from rfl, l_X12_shared_0]
      repeat' (first | (with_reducible apply hs_f; (case h => (first | (simp (disch := (first | exact hz _ _ | exact hv _ | exact hL | assumption | (simp (disch := decide) only [zup_ne]; exact hL) | (simp only [zR]; omega) | omega)) only [zLit, zI_div, hI_fs, hI_us, zI_add, zI_sub, zI_mul, zI_neg, zI_lt, zI_eq, zI_ite, xbd_s, zI_nat, zld, zst, zbd, zB_0, zB_1, lenX_s, zup_at, xgd, cond_true, cond_false, and_self, and_true, true_and, false_and, and_false, or_self, or_false, false_or, if_true, if_false, ite_true, ite_false, reduceIte, reduceCtorEq, Nat.reduceEqDiff, Nat.reduceAdd, Nat.reduceMul, Int.reduceNeg, Int.reduceAdd, Int.reduceSub, Int.reduceMul, Int.reduceLT, Int.reduceLE, Int.reduceEq, Int.reduceDiv, Int.reduceMod, Int.reduceToNat, Int.toNat_zero, Int.toNat_one, Nat.reduceLeDiff, Nat.reduceLT, ite_not, not_true, not_false_eq_true] <;> omega) | omega))) | (with_reducible apply hs_t; (case h => (first | (simp (disch := (first | exact hz _ _ | exact hv _ | exact hL | assumption | (simp (disch := decide) only [zup_ne]; exact hL) | (simp only [zR]; omega) | omega)) only [zLit, zI_div, hI_fs, hI_us, zI_add, zI_sub, zI_mul, zI_neg, zI_lt, zI_eq, zI_ite, xbd_s, zI_nat, zld, zst, zbd, zB_0, zB_1, lenX_s, zup_at, xgd, cond_true, cond_false, and_self, and_true, true_and, false_and, and_false, or_self, or_false, false_or, if_true, if_false, ite_true, ite_false, reduceIte, reduceCtorEq, Nat.reduceEqDiff, Nat.reduceAdd, Nat.reduceMul, Int.reduceNeg, Int.reduceAdd, Int.reduceSub, Int.reduceMul, Int.reduceLT, Int.reduceLE, Int.reduceEq, Int.reduceDiv, Int.reduceMod, Int.reduceToNat, Int.toNat_zero, Int.toNat_one, Nat.reduceLeDiff, Nat.reduceLT, ite_not, not_true, not_false_eq_true] <;> omega) | omega))) | (with_reducible apply hs_b; (case h => (simp (disch := (first | exact hz _ _ | exact hv _ | exact hL | assumption | (simp (disch := decide) only [zup_ne]; exact hL) | (simp only [zR]; omega) | omega)) only [zLit, zI_div, hI_fs, hI_us, zI_add, zI_sub, zI_mul, zI_neg, zI_lt, zI_eq, zI_ite, xbd_s, zI_nat, zld, zst, zbd, zB_0, zB_1, lenX_s, zup_at, xgd, cond_true, cond_false, and_self, and_true, true_and, false_and, and_false, or_self, or_false, false_or, if_true, if_false, ite_true, ite_false, reduceIte, reduceCtorEq, Nat.reduceEqDiff, Nat.reduceAdd, Nat.reduceMul, Int.reduceNeg, Int.reduceAdd, Int.reduceSub, Int.reduceMul, Int.reduceLT, Int.reduceLE, Int.reduceEq, Int.reduceDiv, Int.reduceMod, Int.reduceToNat, Int.toNat_zero, Int.toNat_one, Nat.reduceLeDiff, Nat.reduceLT, ite_not, not_true, not_false_eq_true, m_within]; rfl)); try dsimp only) | (with_reducible apply hs_c <;> intro q9 <;> (try simp (disch := (first | exact hz _ _ | exact hv _ | exact hL | assumption | (simp (disch := decide) only [zup_ne]; exact hL) | (simp only [zR]; omega) | omega)) only [zLit, zI_div, hI_fs, hI_us, zI_add, zI_sub, zI_mul, zI_neg, zI_lt, zI_eq, zI_ite, xbd_s, zI_nat, zld, zst, zbd, zB_0, zB_1, lenX_s, zup_at, xgd, cond_true, cond_false, and_self, and_true, true_and, false_and, and_false, or_self, or_false, false_or, if_true, if_false, ite_true, ite_false, reduceIte, reduceCtorEq, Nat.reduceEqDiff, Nat.reduceAdd, Nat.reduceMul, Int.reduceNeg, Int.reduceAdd, Int.reduceSub, Int.reduceMul, Int.reduceLT, Int.reduceLE, Int.reduceEq, Int.reduceDiv, Int.reduceMod, Int.reduceToNat, Int.toNat_zero, Int.toNat_one, Nat.reduceLeDiff, Nat.reduceLT, ite_not, not_true, not_false_eq_true] at q9)))
      have h12 : zR 12 := zR_s (by omega)
      have h0r : zR 0 := zR_s (by omega)
      rw [show (999999 : Nat) = 999998 + 1 from rfl, l_X12_shared_18]
      simp only [zLit, zI_neg, lenX_s, zI_nat h12, zld (show (0 : Int) ≤ 12 by omega), pow_I h4]
      rw [if_neg (by rw [zI_lt h12 h0r]; omega), if_pos (by rw [zI_lt (zR_s (by omega)) (zR_s (by omega))]; omega)]
      exact m41
  · refine two_ro hI0 (-1) (by simp only [zR]; omega) ?_ ?_
    · rw [e_X11_shared, show xF = 999999 + 1 from rfl, l_X11_shared_0]
      repeat' (first | (with_reducible apply hs_f; (case h => (first | (simp (disch := (first | exact hz _ _ | exact hv _ | exact hL | assumption | (simp (disch := decide) only [zup_ne]; exact hL) | (simp only [zR]; omega) | omega)) only [zLit, zI_div, hI_fs, hI_us, zI_add, zI_sub, zI_mul, zI_neg, zI_lt, zI_eq, zI_ite, xbd_s, zI_nat, zld, zst, zbd, zB_0, zB_1, lenX_s, zup_at, xgd, cond_true, cond_false, and_self, and_true, true_and, false_and, and_false, or_self, or_false, false_or, if_true, if_false, ite_true, ite_false, reduceIte, reduceCtorEq, Nat.reduceEqDiff, Nat.reduceAdd, Nat.reduceMul, Int.reduceNeg, Int.reduceAdd, Int.reduceSub, Int.reduceMul, Int.reduceLT, Int.reduceLE, Int.reduceEq, Int.reduceDiv, Int.reduceMod, Int.reduceToNat, Int.toNat_zero, Int.toNat_one, Nat.reduceLeDiff, Nat.reduceLT, ite_not, not_true, not_false_eq_true] <;> omega) | omega))) | (with_reducible apply hs_t; (case h => (first | (simp (disch := (first | exact hz _ _ | exact hv _ | exact hL | assumption | (simp (disch := decide) only [zup_ne]; exact hL) | (simp only [zR]; omega) | omega)) only [zLit, zI_div, hI_fs, hI_us, zI_add, zI_sub, zI_mul, zI_neg, zI_lt, zI_eq, zI_ite, xbd_s, zI_nat, zld, zst, zbd, zB_0, zB_1, lenX_s, zup_at, xgd, cond_true, cond_false, and_self, and_true, true_and, false_and, and_false, or_self, or_false, false_or, if_true, if_false, ite_true, ite_false, reduceIte, reduceCtorEq, Nat.reduceEqDiff, Nat.reduceAdd, Nat.reduceMul, Int.reduceNeg, Int.reduceAdd, Int.reduceSub, Int.reduceMul, Int.reduceLT, Int.reduceLE, Int.reduceEq, Int.reduceDiv, Int.reduceMod, Int.reduceToNat, Int.toNat_zero, Int.toNat_one, Nat.reduceLeDiff, Nat.reduceLT, ite_not, not_true, not_false_eq_true] <;> omega) | omega))) | (with_reducible apply hs_b; (case h => (simp (disch := (first | exact hz _ _ | exact hv _ | exact hL | assumption | (simp (disch := decide) only [zup_ne]; exact hL) | (simp only [zR]; omega) | omega)) only [zLit, zI_div, hI_fs, hI_us, zI_add, zI_sub, zI_mul, zI_neg, zI_lt, zI_eq, zI_ite, xbd_s, zI_nat, zld, zst, zbd, zB_0, zB_1, lenX_s, zup_at, xgd, cond_true, cond_false, and_self, and_true, true_and, false_and, and_false, or_self, or_false, false_or, if_true, if_false, ite_true, ite_false, reduceIte, reduceCtorEq, Nat.reduceEqDiff, Nat.reduceAdd, Nat.reduceMul, Int.reduceNeg, Int.reduceAdd, Int.reduceSub, Int.reduceMul, Int.reduceLT, Int.reduceLE, Int.reduceEq, Int.reduceDiv, Int.reduceMod, Int.reduceToNat, Int.toNat_zero, Int.toNat_one, Nat.reduceLeDiff, Nat.reduceLT, ite_not, not_true, not_false_eq_true, c_within]; rfl)); try dsimp only) | (with_reducible apply hs_c <;> intro q9 <;> (try simp (disch := (first | exact hz _ _ | exact hv _ | exact hL | assumption | (simp (disch := decide) only [zup_ne]; exact hL) | (simp only [zR]; omega) | omega)) only [zLit, zI_div, hI_fs, hI_us, zI_add, zI_sub, zI_mul, zI_neg, zI_lt, zI_eq, zI_ite, xbd_s, zI_nat, zld, zst, zbd, zB_0, zB_1, lenX_s, zup_at, xgd, cond_true, cond_false, and_self, and_true, true_and, false_and, and_false, or_self, or_false, false_or, if_true, if_false, ite_true, ite_false, reduceIte, reduceCtorEq, Nat.reduceEqDiff, Nat.reduceAdd, Nat.reduceMul, Int.reduceNeg, Int.reduceAdd, Int.reduceSub, Int.reduceMul, Int.reduceLT, Int.reduceLE, Int.reduceEq, Int.reduceDiv, Int.reduceMod, Int.reduceToNat, Int.toNat_zero, Int.toNat_one, Nat.reduceLeDiff, Nat.reduceLT, ite_not, not_true, not_false_eq_true] at q9)))
      all_goals first | rfl | omega | (simp (maxSteps := 3000000) (disch := (first | exact hz _ _ | exact hv _ | exact hL | assumption | (simp (disch := decide) only [zup_ne]; exact hL) | (simp only [zR]; omega) | omega)) only [zLit, zI_div, hI_fs, hI_us, zI_add, zI_sub, zI_mul, zI_neg, zI_lt, zI_eq, zI_ite, xbd_s, zI_nat, zld, zst, zbd, zB_0, zB_1, lenX_s, zup_at, xgd, cond_true, cond_false, and_self, and_true, true_and, false_and, and_false, or_self, or_false, false_or, if_true, if_false, ite_true, ite_false, reduceIte, reduceCtorEq, Nat.reduceEqDiff, Nat.reduceAdd, Nat.reduceMul, Int.reduceNeg, Int.reduceAdd, Int.reduceSub, Int.reduceMul, Int.reduceLT, Int.reduceLE, Int.reduceEq, Int.reduceDiv, Int.reduceMod, Int.reduceToNat, Int.toNat_zero, Int.toNat_one, Nat.reduceLeDiff, Nat.reduceLT, ite_not, not_true, not_false_eq_true]; done) | (simp (maxSteps := 3000000) (disch := (first | exact hz _ _ | exact hv _ | exact hL | assumption | (simp (disch := decide) only [zup_ne]; exact hL) | (simp only [zR]; omega) | omega)) only [zLit, zI_div, hI_fs, hI_us, zI_add, zI_sub, zI_mul, zI_neg, zI_lt, zI_eq, zI_ite, xbd_s, zI_nat, zld, zst, zbd, zB_0, zB_1, lenX_s, zup_at, xgd, cond_true, cond_false, and_self, and_true, true_and, false_and, and_false, or_self, or_false, false_or, if_true, if_false, ite_true, ite_false, reduceIte, reduceCtorEq, Nat.reduceEqDiff, Nat.reduceAdd, Nat.reduceMul, Int.reduceNeg, Int.reduceAdd, Int.reduceSub, Int.reduceMul, Int.reduceLT, Int.reduceLE, Int.reduceEq, Int.reduceDiv, Int.reduceMod, Int.reduceToNat, Int.toNat_zero, Int.toNat_one, Nat.reduceLeDiff, Nat.reduceLT, ite_not, not_true, not_false_eq_true]; rfl)
    · rw [e_X12_shared, show xF = 999999 + 1 from rfl, l_X12_shared_0]
      repeat' (first | (with_reducible apply hs_f; (case h => (first | (simp (disch := (first | exact hz _ _ | exact hv _ | exact hL | assumption | (simp (disch := decide) only [zup_ne]; exact hL) | (simp only [zR]; omega) | omega)) only [zLit, zI_div, hI_fs, hI_us, zI_add, zI_sub, zI_mul, zI_neg, zI_lt, zI_eq, zI_ite, xbd_s, zI_nat, zld, zst, zbd, zB_0, zB_1, lenX_s, zup_at, xgd, cond_true, cond_false, and_self, and_true, true_and, false_and, and_false, or_self, or_false, false_or, if_true, if_false, ite_true, ite_false, reduceIte, reduceCtorEq, Nat.reduceEqDiff, Nat.reduceAdd, Nat.reduceMul, Int.reduceNeg, Int.reduceAdd, Int.reduceSub, Int.reduceMul, Int.reduceLT, Int.reduceLE, Int.reduceEq, Int.reduceDiv, Int.reduceMod, Int.reduceToNat, Int.toNat_zero, Int.toNat_one, Nat.reduceLeDiff, Nat.reduceLT, ite_not, not_true, not_false_eq_true] <;> omega) | omega))) | (with_reducible apply hs_t; (case h => (first | (simp (disch := (first | exact hz _ _ | exact hv _ | exact hL | assumption | (simp (disch := decide) only [zup_ne]; exact hL) | (simp only [zR]; omega) | omega)) only [zLit, zI_div, hI_fs, hI_us, zI_add, zI_sub, zI_mul, zI_neg, zI_lt, zI_eq, zI_ite, xbd_s, zI_nat, zld, zst, zbd, zB_0, zB_1, lenX_s, zup_at, xgd, cond_true, cond_false, and_self, and_true, true_and, false_and, and_false, or_self, or_false, false_or, if_true, if_false, ite_true, ite_false, reduceIte, reduceCtorEq, Nat.reduceEqDiff, Nat.reduceAdd, Nat.reduceMul, Int.reduceNeg, Int.reduceAdd, Int.reduceSub, Int.reduceMul, Int.reduceLT, Int.reduceLE, Int.reduceEq, Int.reduceDiv, Int.reduceMod, Int.reduceToNat, Int.toNat_zero, Int.toNat_one, Nat.reduceLeDiff, Nat.reduceLT, ite_not, not_true, not_false_eq_true] <;> omega) | omega))) | (with_reducible apply hs_b; (case h => (simp (disch := (first | exact hz _ _ | exact hv _ | exact hL | assumption | (simp (disch := decide) only [zup_ne]; exact hL) | (simp only [zR]; omega) | omega)) only [zLit, zI_div, hI_fs, hI_us, zI_add, zI_sub, zI_mul, zI_neg, zI_lt, zI_eq, zI_ite, xbd_s, zI_nat, zld, zst, zbd, zB_0, zB_1, lenX_s, zup_at, xgd, cond_true, cond_false, and_self, and_true, true_and, false_and, and_false, or_self, or_false, false_or, if_true, if_false, ite_true, ite_false, reduceIte, reduceCtorEq, Nat.reduceEqDiff, Nat.reduceAdd, Nat.reduceMul, Int.reduceNeg, Int.reduceAdd, Int.reduceSub, Int.reduceMul, Int.reduceLT, Int.reduceLE, Int.reduceEq, Int.reduceDiv, Int.reduceMod, Int.reduceToNat, Int.toNat_zero, Int.toNat_one, Nat.reduceLeDiff, Nat.reduceLT, ite_not, not_true, not_false_eq_true, m_within]; rfl)); try dsimp only) | (with_reducible apply hs_c <;> intro q9 <;> (try simp (disch := (first | exact hz _ _ | exact hv _ | exact hL | assumption | (simp (disch := decide) only [zup_ne]; exact hL) | (simp only [zR]; omega) | omega)) only [zLit, zI_div, hI_fs, hI_us, zI_add, zI_sub, zI_mul, zI_neg, zI_lt, zI_eq, zI_ite, xbd_s, zI_nat, zld, zst, zbd, zB_0, zB_1, lenX_s, zup_at, xgd, cond_true, cond_false, and_self, and_true, true_and, false_and, and_false, or_self, or_false, false_or, if_true, if_false, ite_true, ite_false, reduceIte, reduceCtorEq, Nat.reduceEqDiff, Nat.reduceAdd, Nat.reduceMul, Int.reduceNeg, Int.reduceAdd, Int.reduceSub, Int.reduceMul, Int.reduceLT, Int.reduceLE, Int.reduceEq, Int.reduceDiv, Int.reduceMod, Int.reduceToNat, Int.toNat_zero, Int.toNat_one, Nat.reduceLeDiff, Nat.reduceLT, ite_not, not_true, not_false_eq_true] at q9)))
      all_goals first | rfl | omega | (simp (maxSteps := 3000000) (disch := (first | exact hz _ _ | exact hv _ | exact hL | assumption | (simp (disch := decide) only [zup_ne]; exact hL) | (simp only [zR]; omega) | omega)) only [zLit, zI_div, hI_fs, hI_us, zI_add, zI_sub, zI_mul, zI_neg, zI_lt, zI_eq, zI_ite, xbd_s, zI_nat, zld, zst, zbd, zB_0, zB_1, lenX_s, zup_at, xgd, cond_true, cond_false, and_self, and_true, true_and, false_and, and_false, or_self, or_false, false_or, if_true, if_false, ite_true, ite_false, reduceIte, reduceCtorEq, Nat.reduceEqDiff, Nat.reduceAdd, Nat.reduceMul, Int.reduceNeg, Int.reduceAdd, Int.reduceSub, Int.reduceMul, Int.reduceLT, Int.reduceLE, Int.reduceEq, Int.reduceDiv, Int.reduceMod, Int.reduceToNat, Int.toNat_zero, Int.toNat_one, Nat.reduceLeDiff, Nat.reduceLT, ite_not, not_true, not_false_eq_true]; done) | (simp (maxSteps := 3000000) (disch := (first | exact hz _ _ | exact hv _ | exact hL | assumption | (simp (disch := decide) only [zup_ne]; exact hL) | (simp only [zR]; omega) | omega)) only [zLit, zI_div, hI_fs, hI_us, zI_add, zI_sub, zI_mul, zI_neg, zI_lt, zI_eq, zI_ite, xbd_s, zI_nat, zld, zst, zbd, zB_0, zB_1, lenX_s, zup_at, xgd, cond_true, cond_false, and_self, and_true, true_and, false_and, and_false, or_self, or_false, false_or, if_true, if_false, ite_true, ite_false, reduceIte, reduceCtorEq, Nat.reduceEqDiff, Nat.reduceAdd, Nat.reduceMul, Int.reduceNeg, Int.reduceAdd, Int.reduceSub, Int.reduceMul, Int.reduceLT, Int.reduceLE, Int.reduceEq, Int.reduceDiv, Int.reduceMod, Int.reduceToNat, Int.toNat_zero, Int.toNat_one, Nat.reduceLeDiff, Nat.reduceLT, ite_not, not_true, not_false_eq_true]; rfl)
