/-! PURE, part 42: line, hand -/
theorem two_c {i j : Nat} {as : List xV} {z : zH} (r : Int) (hr : zR r) (hz : zRR z) (e1 : cM 60 i (xR 27 0 :: as) (hI z) = some (zI r, hI z)) (e2 : xw (cM 60 j (xR 28 100 :: as) (hI z)) (fun r' z2 => r' = r ∧ Inv z2)) : two i j as z := xw_eq e1 hr hz e2
theorem k_line {z : zH} (h : Inv z) {a b : Int} (ha : zR a) (hb : zR b) : two 122 223 [xI (zI a), xI (zI b)] z := by
  have hI0 := h
  obtain ⟨hz, hW, hK, hT, hO, hS, hF, hCt⟩ := h
  have hL := hW.1.2
  have hR := RLand_R hW.1.1
  have hC : PCraft 6 z (z 101) := hW.2.1
  have hcr := PCraft_cr hC
  have g := hC.2.2.2.2.2.1
  have p4 := hC.2.2.2.2.1
  have g5 := hC.2.2.2.2.2.2
  have hH : PHands 13 z (z 101) := hW.2.2.2.2.2.1
  have r13 : z 13 3 = z 101 10 := hH.1
  have h10 := hH.2.1
  have h9 : z 13 3 ≤ 9 := by omega
  have h0r : zR 0 := zR_s (by omega)
  by_cases q : (0 ≤ a ∧ a < z 101 10) ∧ 0 ≤ b ∧ b ≤ 1
  · obtain ⟨q1, q2⟩ := q
    obtain ⟨d1, d2, B, dd⟩ := hH.2.2 a q1.1 q1.2
    have ar : zR (296 + 3 * a) := zR_s (by omega)
    have ba : ¬ (zI (296 + 3 * a) < zI 0 ∨ 572 ≤ (zI (296 + 3 * a)).toNatClampNeg) := by rw [zI_lt ar h0r, zI_nat ar]; omega
    have ba' : ¬ (zI a < zI 0 ∨ 9 ≤ (zI a).toNatClampNeg) := by rw [zI_lt ha h0r, zI_nat ha]; omega
    by_cases qb : b = 0
    · subst qb
      refine two_c (z 101 (296 + 3 * a)) (hz _ _) hz ?_ ?_
      · have ea : hI z 14 (zI a).toNatClampNeg = zI (z 101 (296 + 3 * a)) := by rw [zI_nat ha, zld q1.1]; exact congrArg zI d1
        rw [e_X11_line]
        simp only [c_hHas _ hz h9 ha, zLit, xbd_n, zB_0]
        rw [if_neg (by omega)]
        simp only [c_within _ h0r h0r (show zR 1 from zR_s (by omega)), xbd_n, zB_0]
        rw [if_neg (by omega), if_pos trivial]
        simp only [lenX_s, if_neg ba', ea]
      · rw [e_X12_line]
        simp only [m_is _ hz ha (show (0 : Int) ≤ 10 ∧ (10 : Int) < 572 by omega) (show 0 ≤ z 101 10 ∧ z 101 10 ≤ 1000 by omega), zLit, xbd_n, zB_0]
        rw [if_neg (by omega)]
        simp only [m_within _ h0r h0r (show zR 1 from zR_s (by omega)), xbd_n, zB_0]
        rw [if_neg (by omega)]
        refine xw_k (m_beginW _ hz) ?_
        intro r z1 hr hz1 ⟨c1, f1, g1⟩
        have ea : hI z1 101 (zI (296 + 3 * a)).toNatClampNeg = zI (z 101 (296 + 3 * a)) := by rw [zI_nat ar, zld (by omega), f1 101 rfl]
        rw [if_pos trivial]
        simp only [lenX_s, zI_mul, zI_add, if_neg ba, ea]
        have y : zRR (zup z1 100 28 0) := zRR_up hz1 _ _ h0r
        refine xw_eq (z := zup z1 100 28 0) ?_ (hz _ _) y ⟨rfl, Inv_scrM hI0 y (F := [5, 6, 7, 8, 28]) (fr_up (fr_mono f1 rfl) _ _ rfl) (ff_up (ff_mono g1 rfl) _ rfl) rfl rfl rfl rfl⟩
        simp only [hI_us]
    · have b1 : b = 1 := by omega
      subst b1
      have hCz : okC (z 101) (crC z 6) := by rw [hcr]; exact g
      have e1 := fun d => c_holds d hz (hz 101) hR hL hH (o := 6) hCz ⟨by omega, by omega⟩ (l := a) q1 dd
      rw [hcr, p4] at e1
      have Bb := dd.2.2.1 (vEnv (crV (z 101)) (z 101 6) (z 101 (24 + (crV (z 101)).1)) (z 101 (88 + (crV (z 101)).1)))
      have n10 : ¬ zI 1 = zI 0 := by decide
      refine two_c (B (vEnv (crV (z 101)) (z 101 6) (z 101 (24 + (crV (z 101)).1)) (z 101 (88 + (crV (z 101)).1)))) (by rcases Bb with w | w <;> rw [w] <;> exact zR_s (by omega)) hz ?_ ?_
      · rw [e_X11_line]
        simp only [c_hHas _ hz h9 ha, zLit, xbd_n, zB_0]
        rw [if_neg (by omega)]
        simp only [c_within _ (show zR 1 from zR_s (by omega)) h0r (show zR 1 from zR_s (by omega)), xbd_n, zB_0]
        rw [if_neg (by omega), if_neg n10]
        simp only [e1, xbd_n, zB_0]
        rcases Bb with w | w
        · rw [w, if_pos (by omega)]
        · rw [w, if_neg (fun x => x rfl)]
      · rw [e_X12_line]
        simp only [m_is _ hz ha (show (0 : Int) ≤ 10 ∧ (10 : Int) < 572 by omega) (show 0 ≤ z 101 10 ∧ z 101 10 ≤ 1000 by omega), zLit, xbd_n, zB_0]
        rw [if_neg (by omega)]
        simp only [m_within _ (show zR 1 from zR_s (by omega)) h0r (show zR 1 from zR_s (by omega)), xbd_n, zB_0]
        rw [if_neg (by omega)]
        refine xw_k (m_beginW _ hz) ?_
        intro r z1 hr hz1 ⟨c1, f1, g1⟩
        rw [if_neg n10]
        obtain ⟨H, dH⟩ : ∃ H, H = zup z1 100 28 0 := ⟨_, rfl⟩
        have y : zRR H := by rw [dH]; exact zRR_up hz1 _ _ h0r
        have fH : fr [100] z H := by rw [dH]; exact fr_up f1 _ _ rfl
        have gH : ff [5, 6, 7, 8, 28] z H := by rw [dH]; exact ff_up (ff_mono g1 rfl) _ rfl
        have v1 : H 101 = z 101 := fH 101 rfl
        have t0 : H 100 28 = 0 := by rw [dH, zup_at, if_pos ⟨rfl, rfl⟩]
        have cH : crM H = crV (z 101) := by
          rw [dH]
          simp only [crM, zup_at, and_self, and_true, true_and, and_false, false_and, if_true, if_false, reduceIte, Int.reduceEq]
          exact c1
        simp only [hI_us]
        rw [← dH]
        have hE : vEnv (crM H) (H 101 6 + H 100 28) (H 101 (24 + (crM H).1)) (H 101 (88 + (crM H).1)) = vEnv (crV (z 101)) (z 101 6) (z 101 (24 + (crV (z 101)).1)) (z 101 (88 + (crV (z 101)).1)) := by rw [v1, t0, cH, Int.add_zero]
        have e2 := m_holds 57 (z := H) (l := a) (a := z 101 (297 + 3 * a)) (b := z 101 (298 + 3 * a)) (B := B) (D := 16) (cc := z 16) (ca := z 15 a) (cb := z 15 (a + 1)) y (by rw [v1]; exact hL) (by rw [v1, cH]; exact g) ⟨q1.1, by omega⟩ (fun j => by rw [hE]; exact vEnv_b hL g ⟨by omega, by omega⟩ j) (by omega) (by rw [v1]) (by rw [v1]) (by rw [v1]; exact dd)
        rw [hE] at e2
        refine xw_k e2 ?_
        intro r2 z2 hr2 hz2 ⟨w2, f2⟩
        have inv : Inv z2 := Inv_scrM hI0 (F := [5, 6, 7, 8, 28]) hz2 (fr_tr fH (fr_mono (T := scrM) f2 rfl) rfl) (fun k hk => by rw [f2 100 rfl]; exact gH k hk) rfl rfl rfl rfl
        rw [← w2] at Bb ⊢
        rcases Bb with w | w
        · rw [w, if_pos rfl]
          exact xw_ret h0r hz2 ⟨rfl, inv⟩
        · rw [w, if_neg n10]
          exact xw_ret (zR_s (by omega)) hz2 ⟨rfl, inv⟩
  · have m9 : -(9 : Int32) = zI (-9) := by decide
    refine two_ro hI0 (-9) (by simp only [zR]; omega) ?_ ?_
    · rw [e_X11_line]
      repeat' (first | (with_reducible apply hs_f; (case h => (first | (simp (disch := (first | exact hz _ _ | exact hv _ | exact hL | assumption | (simp (disch := decide) only [zup_ne]; exact hL) | (simp only [zR]; omega) | omega)) only [zLit, zI_div, hI_fs, hI_us, zI_add, zI_sub, zI_mul, zI_neg, zI_lt, zI_eq, zI_ite, xbd_s, zI_nat, zld, zst, zbd, zB_0, zB_1, lenX_s, zup_at, xgd, cond_true, cond_false, and_self, and_true, true_and, false_and, and_false, or_self, or_false, false_or, if_true, if_false, ite_true, ite_false, reduceIte, reduceCtorEq, Nat.reduceEqDiff, Nat.reduceAdd, Nat.reduceMul, Int.reduceNeg, Int.reduceAdd, Int.reduceSub, Int.reduceMul, Int.reduceLT, Int.reduceLE, Int.reduceEq, Int.reduceDiv, Int.reduceMod, Int.reduceToNat, Int.toNat_zero, Int.toNat_one, Nat.reduceLeDiff, Nat.reduceLT, ite_not, not_true, not_false_eq_true, r13] <;> omega) | omega))) | (with_reducible apply hs_t; (case h => (first | (simp (disch := (first | exact hz _ _ | exact hv _ | exact hL | assumption | (simp (disch := decide) only [zup_ne]; exact hL) | (simp only [zR]; omega) | omega)) only [zLit, zI_div, hI_fs, hI_us, zI_add, zI_sub, zI_mul, zI_neg, zI_lt, zI_eq, zI_ite, xbd_s, zI_nat, zld, zst, zbd, zB_0, zB_1, lenX_s, zup_at, xgd, cond_true, cond_false, and_self, and_true, true_and, false_and, and_false, or_self, or_false, false_or, if_true, if_false, ite_true, ite_false, reduceIte, reduceCtorEq, Nat.reduceEqDiff, Nat.reduceAdd, Nat.reduceMul, Int.reduceNeg, Int.reduceAdd, Int.reduceSub, Int.reduceMul, Int.reduceLT, Int.reduceLE, Int.reduceEq, Int.reduceDiv, Int.reduceMod, Int.reduceToNat, Int.toNat_zero, Int.toNat_one, Nat.reduceLeDiff, Nat.reduceLT, ite_not, not_true, not_false_eq_true, r13] <;> omega) | omega))) | (with_reducible apply hs_b; (case h => (simp (disch := (first | exact hz _ _ | exact hv _ | exact hL | assumption | (simp (disch := decide) only [zup_ne]; exact hL) | (simp only [zR]; omega) | omega)) only [zLit, zI_div, hI_fs, hI_us, zI_add, zI_sub, zI_mul, zI_neg, zI_lt, zI_eq, zI_ite, xbd_s, zI_nat, zld, zst, zbd, zB_0, zB_1, lenX_s, zup_at, xgd, cond_true, cond_false, and_self, and_true, true_and, false_and, and_false, or_self, or_false, false_or, if_true, if_false, ite_true, ite_false, reduceIte, reduceCtorEq, Nat.reduceEqDiff, Nat.reduceAdd, Nat.reduceMul, Int.reduceNeg, Int.reduceAdd, Int.reduceSub, Int.reduceMul, Int.reduceLT, Int.reduceLE, Int.reduceEq, Int.reduceDiv, Int.reduceMod, Int.reduceToNat, Int.toNat_zero, Int.toNat_one, Nat.reduceLeDiff, Nat.reduceLT, ite_not, not_true, not_false_eq_true, r13, c_hHas _ hz h9, c_within]; rfl)); try dsimp only) | (with_reducible apply hs_c <;> intro q9 <;> (try simp (disch := (first | exact hz _ _ | exact hv _ | exact hL | assumption | (simp (disch := decide) only [zup_ne]; exact hL) | (simp only [zR]; omega) | omega)) only [zLit, zI_div, hI_fs, hI_us, zI_add, zI_sub, zI_mul, zI_neg, zI_lt, zI_eq, zI_ite, xbd_s, zI_nat, zld, zst, zbd, zB_0, zB_1, lenX_s, zup_at, xgd, cond_true, cond_false, and_self, and_true, true_and, false_and, and_false, or_self, or_false, false_or, if_true, if_false, ite_true, ite_false, reduceIte, reduceCtorEq, Nat.reduceEqDiff, Nat.reduceAdd, Nat.reduceMul, Int.reduceNeg, Int.reduceAdd, Int.reduceSub, Int.reduceMul, Int.reduceLT, Int.reduceLE, Int.reduceEq, Int.reduceDiv, Int.reduceMod, Int.reduceToNat, Int.toNat_zero, Int.toNat_one, Nat.reduceLeDiff, Nat.reduceLT, ite_not, not_true, not_false_eq_true, r13] at q9)))
      all_goals first | rfl | omega | (simp (maxSteps := 3000000) (disch := (first | exact hz _ _ | exact hv _ | exact hL | assumption | (simp (disch := decide) only [zup_ne]; exact hL) | (simp only [zR]; omega) | omega)) only [zLit, zI_div, hI_fs, hI_us, zI_add, zI_sub, zI_mul, zI_neg, zI_lt, zI_eq, zI_ite, xbd_s, zI_nat, zld, zst, zbd, zB_0, zB_1, lenX_s, zup_at, xgd, cond_true, cond_false, and_self, and_true, true_and, false_and, and_false, or_self, or_false, false_or, if_true, if_false, ite_true, ite_false, reduceIte, reduceCtorEq, Nat.reduceEqDiff, Nat.reduceAdd, Nat.reduceMul, Int.reduceNeg, Int.reduceAdd, Int.reduceSub, Int.reduceMul, Int.reduceLT, Int.reduceLE, Int.reduceEq, Int.reduceDiv, Int.reduceMod, Int.reduceToNat, Int.toNat_zero, Int.toNat_one, Nat.reduceLeDiff, Nat.reduceLT, ite_not, not_true, not_false_eq_true]; done) | (simp (maxSteps := 3000000) (disch := (first | exact hz _ _ | exact hv _ | exact hL | assumption | (simp (disch := decide) only [zup_ne]; exact hL) | (simp only [zR]; omega) | omega)) only [zLit, zI_div, hI_fs, hI_us, zI_add, zI_sub, zI_mul, zI_neg, zI_lt, zI_eq, zI_ite, xbd_s, zI_nat, zld, zst, zbd, zB_0, zB_1, lenX_s, zup_at, xgd, cond_true, cond_false, and_self, and_true, true_and, false_and, and_false, or_self, or_false, false_or, if_true, if_false, ite_true, ite_false, reduceIte, reduceCtorEq, Nat.reduceEqDiff, Nat.reduceAdd, Nat.reduceMul, Int.reduceNeg, Int.reduceAdd, Int.reduceSub, Int.reduceMul, Int.reduceLT, Int.reduceLE, Int.reduceEq, Int.reduceDiv, Int.reduceMod, Int.reduceToNat, Int.toNat_zero, Int.toNat_one, Nat.reduceLeDiff, Nat.reduceLT, ite_not, not_true, not_false_eq_true]; rfl)
    · rw [e_X12_line]
      repeat' (first | (with_reducible apply hs_f; (case h => (first | (simp (disch := (first | exact hz _ _ | exact hv _ | exact hL | assumption | (simp (disch := decide) only [zup_ne]; exact hL) | (simp only [zR]; omega) | omega)) only [zLit, zI_div, hI_fs, hI_us, zI_add, zI_sub, zI_mul, zI_neg, zI_lt, zI_eq, zI_ite, xbd_s, zI_nat, zld, zst, zbd, zB_0, zB_1, lenX_s, zup_at, xgd, cond_true, cond_false, and_self, and_true, true_and, false_and, and_false, or_self, or_false, false_or, if_true, if_false, ite_true, ite_false, reduceIte, reduceCtorEq, Nat.reduceEqDiff, Nat.reduceAdd, Nat.reduceMul, Int.reduceNeg, Int.reduceAdd, Int.reduceSub, Int.reduceMul, Int.reduceLT, Int.reduceLE, Int.reduceEq, Int.reduceDiv, Int.reduceMod, Int.reduceToNat, Int.toNat_zero, Int.toNat_one, Nat.reduceLeDiff, Nat.reduceLT, ite_not, not_true, not_false_eq_true] <;> omega) | omega))) | (with_reducible apply hs_t; (case h => (first | (simp (disch := (first | exact hz _ _ | exact hv _ | exact hL | assumption | (simp (disch := decide) only [zup_ne]; exact hL) | (simp only [zR]; omega) | omega)) only [zLit, zI_div, hI_fs, hI_us, zI_add, zI_sub, zI_mul, zI_neg, zI_lt, zI_eq, zI_ite, xbd_s, zI_nat, zld, zst, zbd, zB_0, zB_1, lenX_s, zup_at, xgd, cond_true, cond_false, and_self, and_true, true_and, false_and, and_false, or_self, or_false, false_or, if_true, if_false, ite_true, ite_false, reduceIte, reduceCtorEq, Nat.reduceEqDiff, Nat.reduceAdd, Nat.reduceMul, Int.reduceNeg, Int.reduceAdd, Int.reduceSub, Int.reduceMul, Int.reduceLT, Int.reduceLE, Int.reduceEq, Int.reduceDiv, Int.reduceMod, Int.reduceToNat, Int.toNat_zero, Int.toNat_one, Nat.reduceLeDiff, Nat.reduceLT, ite_not, not_true, not_false_eq_true] <;> omega) | omega))) | (with_reducible apply hs_b; (case h => (simp (disch := (first | exact hz _ _ | exact hv _ | exact hL | assumption | (simp (disch := decide) only [zup_ne]; exact hL) | (simp only [zR]; omega) | omega)) only [zLit, zI_div, hI_fs, hI_us, zI_add, zI_sub, zI_mul, zI_neg, zI_lt, zI_eq, zI_ite, xbd_s, zI_nat, zld, zst, zbd, zB_0, zB_1, lenX_s, zup_at, xgd, cond_true, cond_false, and_self, and_true, true_and, false_and, and_false, or_self, or_false, false_or, if_true, if_false, ite_true, ite_false, reduceIte, reduceCtorEq, Nat.reduceEqDiff, Nat.reduceAdd, Nat.reduceMul, Int.reduceNeg, Int.reduceAdd, Int.reduceSub, Int.reduceMul, Int.reduceLT, Int.reduceLE, Int.reduceEq, Int.reduceDiv, Int.reduceMod, Int.reduceToNat, Int.toNat_zero, Int.toNat_one, Nat.reduceLeDiff, Nat.reduceLT, ite_not, not_true, not_false_eq_true, m_is, m_within]; rfl)); try dsimp only) | (with_reducible apply hs_c <;> intro q9 <;> (try simp (disch := (first | exact hz _ _ | exact hv _ | exact hL | assumption | (simp (disch := decide) only [zup_ne]; exact hL) | (simp only [zR]; omega) | omega)) only [zLit, zI_div, hI_fs, hI_us, zI_add, zI_sub, zI_mul, zI_neg, zI_lt, zI_eq, zI_ite, xbd_s, zI_nat, zld, zst, zbd, zB_0, zB_1, lenX_s, zup_at, xgd, cond_true, cond_false, and_self, and_true, true_and, false_and, and_false, or_self, or_false, false_or, if_true, if_false, ite_true, ite_false, reduceIte, reduceCtorEq, Nat.reduceEqDiff, Nat.reduceAdd, Nat.reduceMul, Int.reduceNeg, Int.reduceAdd, Int.reduceSub, Int.reduceMul, Int.reduceLT, Int.reduceLE, Int.reduceEq, Int.reduceDiv, Int.reduceMod, Int.reduceToNat, Int.toNat_zero, Int.toNat_one, Nat.reduceLeDiff, Nat.reduceLT, ite_not, not_true, not_false_eq_true] at q9)))
      all_goals first | rfl | omega | (simp (maxSteps := 3000000) (disch := (first | exact hz _ _ | exact hv _ | exact hL | assumption | (simp (disch := decide) only [zup_ne]; exact hL) | (simp only [zR]; omega) | omega)) only [zLit, zI_div, hI_fs, hI_us, zI_add, zI_sub, zI_mul, zI_neg, zI_lt, zI_eq, zI_ite, xbd_s, zI_nat, zld, zst, zbd, zB_0, zB_1, lenX_s, zup_at, xgd, cond_true, cond_false, and_self, and_true, true_and, false_and, and_false, or_self, or_false, false_or, if_true, if_false, ite_true, ite_false, reduceIte, reduceCtorEq, Nat.reduceEqDiff, Nat.reduceAdd, Nat.reduceMul, Int.reduceNeg, Int.reduceAdd, Int.reduceSub, Int.reduceMul, Int.reduceLT, Int.reduceLE, Int.reduceEq, Int.reduceDiv, Int.reduceMod, Int.reduceToNat, Int.toNat_zero, Int.toNat_one, Nat.reduceLeDiff, Nat.reduceLT, ite_not, not_true, not_false_eq_true]; done) | (simp (maxSteps := 3000000) (disch := (first | exact hz _ _ | exact hv _ | exact hL | assumption | (simp (disch := decide) only [zup_ne]; exact hL) | (simp only [zR]; omega) | omega)) only [zLit, zI_div, hI_fs, hI_us, zI_add, zI_sub, zI_mul, zI_neg, zI_lt, zI_eq, zI_ite, xbd_s, zI_nat, zld, zst, zbd, zB_0, zB_1, lenX_s, zup_at, xgd, cond_true, cond_false, and_self, and_true, true_and, false_and, and_false, or_self, or_false, false_or, if_true, if_false, ite_true, ite_false, reduceIte, reduceCtorEq, Nat.reduceEqDiff, Nat.reduceAdd, Nat.reduceMul, Int.reduceNeg, Int.reduceAdd, Int.reduceSub, Int.reduceMul, Int.reduceLT, Int.reduceLE, Int.reduceEq, Int.reduceDiv, Int.reduceMod, Int.reduceToNat, Int.toNat_zero, Int.toNat_one, Nat.reduceLeDiff, Nat.reduceLT, ite_not, not_true, not_false_eq_true]; rfl)
theorem k_hand {z : zH} (h : Inv z) : two 123 226 [] z := by
  have hI0 := h
  obtain ⟨hz, hW, hK, hT, hO, hS, hF, hCt⟩ := h
  have hL := hW.1.2
  have hR := RLand_R hW.1.1
  have hC : PCraft 6 z (z 101) := hW.2.1
  have hcr := PCraft_cr hC
  have g := hC.2.2.2.2.2.1
  have p4 := hC.2.2.2.2.1
  have g5 := hC.2.2.2.2.2.2
  have hH : PHands 13 z (z 101) := hW.2.2.2.2.2.1
  obtain ⟨B, hB⟩ := PHands_B hH
  have h0r : zR 0 := zR_s (by omega)
  have hCz : okC (z 101) (crC z 6) := by rw [hcr]; exact g
  have e1 := fun d => c_actByHands d hz (hz 101) hR hL hB (o := 6) hCz ⟨by omega, by omega⟩
  rw [hcr, p4] at e1
  obtain ⟨s, hs⟩ : ∃ s, s = spOr (z 101) (crV (z 101)) (spHand (z 101) B (crV (z 101)) (z 101 6)) := ⟨_, rfl⟩
  have sb : s = -1 ∨ (0 ≤ s ∧ s ≤ 8) := by rw [hs]; exact spOr_b
  rw [← hs] at e1
  refine two_c (if s = -1 then -3 else s) (by split <;> exact zR_s (by omega)) hz ?_ ?_
  · rw [e_X11_hand]
    simp only [e1, xbd_n]
  · rw [e_X12_hand]
    refine xw_k (m_beginW _ hz) ?_
    intro r z1 hr hz1 ⟨c1, f1, g1⟩
    obtain ⟨H, dH⟩ : ∃ H, H = zup z1 100 28 0 := ⟨_, rfl⟩
    have y : zRR H := by rw [dH]; exact zRR_up hz1 _ _ h0r
    have fH : fr [100] z H := by rw [dH]; exact fr_up f1 _ _ rfl
    have gH : ff [5, 6, 7, 8, 28] z H := by rw [dH]; exact ff_up (ff_mono g1 rfl) _ rfl
    have v1 : H 101 = z 101 := fH 101 rfl
    have t0 : H 100 28 = 0 := by rw [dH, zup_at, if_pos ⟨rfl, rfl⟩]
    have cH : crM H = crV (z 101) := by
      rw [dH]
      simp only [crM, zup_at, and_self, and_true, true_and, and_false, false_and, if_true, if_false, reduceIte, Int.reduceEq]
      exact c1
    simp only [zLit, hI_us]
    rw [← dH]
    refine xw_k (m_handed 54 (t := z 101 6) ⟨by omega, by omega⟩ hL hB g y v1 cH (by rw [v1, t0, Int.add_zero])) ?_
    intro r2 z2 hr2 hz2 ⟨w2, f2⟩
    have inv : Inv z2 := Inv_scrM hI0 (F := [5, 6, 7, 8, 28]) hz2 (fr_tr fH (fr_mono (T := scrM) f2 rfl) rfl) (fun k hk => by rw [f2 100 rfl]; exact gH k hk) rfl rfl rfl rfl
    rw [← hs] at w2
    subst w2
    by_cases w : r2 = -1
    · rw [if_pos (by rw [zI_lt hr2 h0r]; omega), if_pos w]
      simp only [zI_neg]
      exact xw_ret (zR_s (by omega)) hz2 ⟨rfl, inv⟩
    · rw [if_neg (by rw [zI_lt hr2 h0r]; omega), if_neg w]
      exact xw_ret hr2 hz2 ⟨rfl, inv⟩
