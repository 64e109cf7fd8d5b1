/-! PURE, part 37: ask -/
theorem hI_pt {z z' : zH} (h1 : zRR z) (h2 : zRR z') (e : hI z = hI z') (o : Nat) {k : Int} (hk : 0 ≤ k) : z o k = z' o k := by
  have w : hI z o k.toNat = hI z' o k.toNat := by rw [e]
  rw [zld hk, zld hk] at w
  exact (zI_eq (h1 _ _) (h2 _ _)).mp w
abbrev prepM (w : zH) (F n a : Int) : zH := zup (zup (zup (zup (zup w 100 40 0) 100 41 F) 100 42 n) 100 43 a) 100 44 0
abbrev prepC (w : zH) (F n a : Int) : zH := zup (zup (zup (zup w 66 2 F) 66 3 n) 66 4 a) 66 5 0
theorem Tr_prep {F n a : Int} (hF : zR F) (hn : zR n) (ha : zR a) {z0 w : zH} (h0 : zRR z0) (hw : zRR w) (c0 : z0 66 1 = 0) : Tr F n a (prepC z0 F n a) (prepM w F n a) := by
  have h0r : zR 0 := zR_s (by omega)
  refine ⟨⟨zRR_up (zRR_up (zRR_up (zRR_up h0 _ _ hF) _ _ hn) _ _ ha) _ _ h0r, zRR_up (zRR_up (zRR_up (zRR_up (zRR_up hw _ _ h0r) _ _ hF) _ _ hn) _ _ ha) _ _ h0r⟩, ⟨?_, ?_⟩, ⟨?_, ?_⟩, ⟨?_, ?_⟩, ?_, ?_, fun i i0 i1 => ?_, ?_, Or.inl ?_⟩
  all_goals simp only [prepC, prepM, zup_at, and_self, and_true, true_and, and_false, false_and, if_true, if_false, reduceIte, Int.reduceEq, reduceCtorEq, Nat.reduceEqDiff]
  all_goals first | exact c0 | omega | skip
  simp only [prepC, prepM, zup_at, and_self, and_true, true_and, and_false, false_and, if_true, if_false, reduceIte, Int.reduceEq, reduceCtorEq, Nat.reduceEqDiff] at i1
  omega
theorem rkB_8 (b : Int) : rkB b ≤ 8 := by
  unfold rkB
  (repeat' split) <;> omega
theorem Inv_trace {z z' : zH} (h : Inv z) (y : zRR z') (f : fr [66, 67, 100, 123] z z') (g : ff [40, 41, 42, 43, 44] z z') (hp : PTrace z') : Inv z' := by
  obtain ⟨hz, hW, hK, hT, hO, hS, hF, -⟩ := h
  have lo : ∀ o, o < 66 → z' o = z o := fun o ho => f o ((by decide : ∀ o, o < 66 → [66, 67, 100, 123].elem o = false) o ho)
  exact ⟨y, PWorld_t hW (fun i i0 i1 => lo _ (by omega)) (fun k _ => by rw [f 101 rfl]), PKept_t hK (by rw [lo 0 (by omega)]) (g 2 rfl) (fun i i0 i1 => lo _ (by omega)) (f 102 rfl), PTape_t hT (by rw [lo 55 (by omega)]) (g 4 rfl) (lo 56 (by omega)) (f 103 rfl), PRows_t hO (f 68 rfl) (by rw [lo 47 (by omega)]) (by rw [lo 47 (by omega)]) (g 31 rfl) (f 69 rfl) (f 115 rfl), PSheets_t hS (fun i hi => f _ ((by decide : ∀ i, i < 8 → [66, 67, 100, 123].elem (73 + i) = false) i hi)) (f 117 rfl) (f 118 rfl) (f 119 rfl), PShelves_t hF (f 70 rfl) (f 71 rfl) (f 120 rfl) (f 121 rfl) (f 122 rfl), hp⟩
theorem k_ask {z : zH} (h : Inv z) {s q x : Int} (hs : zR s) (hq : zR q) (hx : zR x) : two 145 257 [xI (zI s), xI (zI q), xI (zI x)] z := by
  have hI0 := h
  obtain ⟨hz, hW, hK, hT, hO, hS, hF, hCt⟩ := h
  have hE : PEnds 7 z (z 101) := hW.2.2.1
  have hSc : PScenes 11 z (z 101) := hW.2.2.2.2.1
  have h0r : zR 0 := zR_s (by omega)
  obtain ⟨z0, d0⟩ : ∃ z0, z0 = zup z 66 1 0 := ⟨_, rfl⟩
  have y0 : zRR z0 := by rw [d0]; exact zRR_up hz _ _ h0r
  have f0 : fr [66, 67] z z0 := by rw [d0]; exact fr_up (fr_rf _ _) _ _ rfl
  have c0 : z0 66 1 = 0 := by rw [d0, zup_at, if_pos ⟨rfl, rfl⟩]
  have u0 : xup (hI z) 66 1 (zI 0) = hI z0 := by rw [d0]; simp only [hI_us]
  have s3 : z0 70 3 = 4 := by rw [f0 70 rfl]; exact hF.1.2.2
  have hz0 := y0
  -- nothing to be asked: both empty the trace
  have none : cM 60 145 [xR 27 0, xI (zI s), xI (zI q), xI (zI x)] (hI z) = some (zI 0, hI z0) → (∀ z1, fr [66, 67] z z1 → zRR z1 → cM 60 257 [xR 28 100, xI (zI s), xI (zI q), xI (zI x)] (hI z1) = some (zI 0, hI (zup z1 100 40 0))) → two 145 257 [xI (zI s), xI (zI q), xI (zI x)] z := by
    intro e1 e2
    have e2 := e2 z0 f0 y0
    refine two_ex 0 z0 _ h0r y0 e1 e2 (Inv_trace hI0 (zRR_up y0 _ _ h0r) (fr_up (fr_mono f0 rfl) _ _ rfl) (ff_up (fun k hk => by rw [f0 100 rfl]) _ rfl) ⟨?_, ?_, fun i i0 i1 => ?_⟩)
    · rw [zup_ne _ _ _ (by decide), c0, zup_at, if_pos ⟨rfl, rfl⟩]
    · rw [zup_at, if_pos ⟨rfl, rfl⟩]; omega
    · rw [zup_at, if_pos ⟨rfl, rfl⟩] at i1; omega
  by_cases q1 : (0 ≤ s ∧ s ≤ 3) ∧ (0 ≤ q ∧ q ≤ 3)
  · obtain ⟨qs, qq⟩ := q1
    have v0 : z0 101 = z 101 := f0 101 rfl
    have W0 : PWorld 1 z0 (z0 101) := PWorld_t hW (fun i i0 i1 => f0 _ ((by decide : ∀ i, i < 22 → [66, 67].elem (1 + i) = false) i i1)) (fun k _ => by rw [v0])
    have S0 : PShelves z0 := PShelves_t hF (f0 70 rfl) (f0 71 rfl) (f0 120 rfl) (f0 121 rfl) (f0 122 rfl)
    have cf := fun d => c_formOn2 d y0 W0 S0 (s := s) qs
    have sf : spForm z0 s = spForm z s := by
      unfold spForm
      rw [f0 120 rfl, f0 121 rfl, v0]
    rw [sf, f0 120 rfl, f0 121 rfl] at cf
    have fb := spForm_b2 hW (s := s)
    by_cases qf : z 120 s = 3 ∨ spForm z s = -1
    · refine none ?_ ?_
      · have cfr : ∃ c, (c < 0 ∨ 6 < c) ∧ zR c ∧ ∀ d, cM (d + 3) 143 [xR 27 0, xI (zI s)] (hI z0) = some (zI c, hI z0) := by
          by_cases w : z 120 s = 3
          · simp only [if_pos w] at cf
            have := hF.2 s qs.1 (by omega)
            rcases this with ⟨a, b⟩ | ⟨a, b, c⟩ | ⟨a, b, c⟩ | ⟨a, b, c, e, f, g⟩
            · omega
            · omega
            · omega
            · exact ⟨10 + z 121 s, Or.inr (by omega), zR_s (by omega), cf⟩
          · have w2 : spForm z s = -1 := by omega
            simp only [if_neg w, if_pos w2] at cf
            exact ⟨-11, Or.inl (by omega), zR_s (by omega), cf⟩
        obtain ⟨c, hc1, hc2, hc3⟩ := cfr
        rw [e_X11_ask]
        simp only [zLit, u0]
        have hz := y0
        repeat' (first | (with_reducible apply hs_f; (case h => (first | (simp (disch := (first | exact hz _ _ | exact hv _ | exact hL | assumption | (simp (disch := decide) only [zup_ne]; exact hL) | (simp only [zR]; omega) | omega)) only [zLit, zI_div, hI_fs, hI_us, zI_add, zI_sub, zI_mul, zI_neg, zI_lt, zI_eq, zI_ite, xbd_s, zI_nat, zld, zst, zbd, zB_0, zB_1, lenX_s, zup_at, xgd, cond_true, cond_false, and_self, and_true, true_and, false_and, and_false, or_self, or_false, false_or, if_true, if_false, ite_true, ite_false, reduceIte, reduceCtorEq, Nat.reduceEqDiff, Nat.reduceAdd, Nat.reduceMul, Int.reduceNeg, Int.reduceAdd, Int.reduceSub, Int.reduceMul, Int.reduceLT, Int.reduceLE, Int.reduceEq, Int.reduceDiv, Int.reduceMod, Int.reduceToNat, Int.toNat_zero, Int.toNat_one, Nat.reduceLeDiff, Nat.reduceLT, ite_not, not_true, not_false_eq_true, s3] <;> omega) | omega))) | (with_reducible apply hs_t; (case h => (first | (simp (disch := (first | exact hz _ _ | exact hv _ | exact hL | assumption | (simp (disch := decide) only [zup_ne]; exact hL) | (simp only [zR]; omega) | omega)) only [zLit, zI_div, hI_fs, hI_us, zI_add, zI_sub, zI_mul, zI_neg, zI_lt, zI_eq, zI_ite, xbd_s, zI_nat, zld, zst, zbd, zB_0, zB_1, lenX_s, zup_at, xgd, cond_true, cond_false, and_self, and_true, true_and, false_and, and_false, or_self, or_false, false_or, if_true, if_false, ite_true, ite_false, reduceIte, reduceCtorEq, Nat.reduceEqDiff, Nat.reduceAdd, Nat.reduceMul, Int.reduceNeg, Int.reduceAdd, Int.reduceSub, Int.reduceMul, Int.reduceLT, Int.reduceLE, Int.reduceEq, Int.reduceDiv, Int.reduceMod, Int.reduceToNat, Int.toNat_zero, Int.toNat_one, Nat.reduceLeDiff, Nat.reduceLT, ite_not, not_true, not_false_eq_true, s3] <;> omega) | omega))) | (with_reducible apply hs_b; (case h => (simp (disch := (first | exact hz _ _ | exact hv _ | exact hL | assumption | (simp (disch := decide) only [zup_ne]; exact hL) | (simp only [zR]; omega) | omega)) only [zLit, zI_div, hI_fs, hI_us, zI_add, zI_sub, zI_mul, zI_neg, zI_lt, zI_eq, zI_ite, xbd_s, zI_nat, zld, zst, zbd, zB_0, zB_1, lenX_s, zup_at, xgd, cond_true, cond_false, and_self, and_true, true_and, false_and, and_false, or_self, or_false, false_or, if_true, if_false, ite_true, ite_false, reduceIte, reduceCtorEq, Nat.reduceEqDiff, Nat.reduceAdd, Nat.reduceMul, Int.reduceNeg, Int.reduceAdd, Int.reduceSub, Int.reduceMul, Int.reduceLT, Int.reduceLE, Int.reduceEq, Int.reduceDiv, Int.reduceMod, Int.reduceToNat, Int.toNat_zero, Int.toNat_one, Nat.reduceLeDiff, Nat.reduceLT, ite_not, not_true, not_false_eq_true, s3, c_rHas, c_within, hc3]; rfl)); try dsimp only) | (with_reducible apply hs_c <;> intro q9 <;> (try simp (disch := (first | exact hz _ _ | exact hv _ | exact hL | assumption | (simp (disch := decide) only [zup_ne]; exact hL) | (simp only [zR]; omega) | omega)) only [zLit, zI_div, hI_fs, hI_us, zI_add, zI_sub, zI_mul, zI_neg, zI_lt, zI_eq, zI_ite, xbd_s, zI_nat, zld, zst, zbd, zB_0, zB_1, lenX_s, zup_at, xgd, cond_true, cond_false, and_self, and_true, true_and, false_and, and_false, or_self, or_false, false_or, if_true, if_false, ite_true, ite_false, reduceIte, reduceCtorEq, Nat.reduceEqDiff, Nat.reduceAdd, Nat.reduceMul, Int.reduceNeg, Int.reduceAdd, Int.reduceSub, Int.reduceMul, Int.reduceLT, Int.reduceLE, Int.reduceEq, Int.reduceDiv, Int.reduceMod, Int.reduceToNat, Int.toNat_zero, Int.toNat_one, Nat.reduceLeDiff, Nat.reduceLT, ite_not, not_true, not_false_eq_true, s3] at q9)))
        all_goals first | rfl | omega | (simp (maxSteps := 3000000) (disch := (first | exact hz _ _ | exact hv _ | exact hL | assumption | (simp (disch := decide) only [zup_ne]; exact hL) | (simp only [zR]; omega) | omega)) only [zLit, zI_div, hI_fs, hI_us, zI_add, zI_sub, zI_mul, zI_neg, zI_lt, zI_eq, zI_ite, xbd_s, zI_nat, zld, zst, zbd, zB_0, zB_1, lenX_s, zup_at, xgd, cond_true, cond_false, and_self, and_true, true_and, false_and, and_false, or_self, or_false, false_or, if_true, if_false, ite_true, ite_false, reduceIte, reduceCtorEq, Nat.reduceEqDiff, Nat.reduceAdd, Nat.reduceMul, Int.reduceNeg, Int.reduceAdd, Int.reduceSub, Int.reduceMul, Int.reduceLT, Int.reduceLE, Int.reduceEq, Int.reduceDiv, Int.reduceMod, Int.reduceToNat, Int.toNat_zero, Int.toNat_one, Nat.reduceLeDiff, Nat.reduceLT, ite_not, not_true, not_false_eq_true]; done) | (simp (maxSteps := 3000000) (disch := (first | exact hz _ _ | exact hv _ | exact hL | assumption | (simp (disch := decide) only [zup_ne]; exact hL) | (simp only [zR]; omega) | omega)) only [zLit, zI_div, hI_fs, hI_us, zI_add, zI_sub, zI_mul, zI_neg, zI_lt, zI_eq, zI_ite, xbd_s, zI_nat, zld, zst, zbd, zB_0, zB_1, lenX_s, zup_at, xgd, cond_true, cond_false, and_self, and_true, true_and, false_and, and_false, or_self, or_false, false_or, if_true, if_false, ite_true, ite_false, reduceIte, reduceCtorEq, Nat.reduceEqDiff, Nat.reduceAdd, Nat.reduceMul, Int.reduceNeg, Int.reduceAdd, Int.reduceSub, Int.reduceMul, Int.reduceLT, Int.reduceLE, Int.reduceEq, Int.reduceDiv, Int.reduceMod, Int.reduceToNat, Int.toNat_zero, Int.toNat_one, Nat.reduceLeDiff, Nat.reduceLT, ite_not, not_true, not_false_eq_true]; rfl)
      · intro z1 f1 y1
        obtain ⟨z2, d2⟩ : ∃ z2, z2 = zup z1 100 40 0 := ⟨_, rfl⟩
        have y2 : zRR z2 := by rw [d2]; exact zRR_up y1 _ _ h0r
        have f2 : fr [66, 67, 100] z z2 := by rw [d2]; exact fr_up (fr_mono f1 rfl) _ _ rfl
        have W2 : PWorld 1 z2 (z2 101) := PWorld_t hW (fun i i0 i1 => f2 _ ((by decide : ∀ i, i < 22 → [66, 67, 100].elem (1 + i) = false) i i1)) (fun k _ => by rw [f2 101 rfl])
        have mf := fun d => m_formOn2 d y2 W2 (s := s) qs
        have sf2 : spForm z2 s = spForm z s := by
          unfold spForm
          rw [f2 120 rfl, f2 121 rfl, f2 101 rfl]
        have sfn : spForm z s = -1 := by
          rcases qf with w | w
          · unfold spForm; rw [if_neg (by omega), if_neg (by omega)]
          · exact w
        rw [sf2, sfn] at mf
        have u2 : xup (hI z1) 100 40 (zI 0) = hI z2 := by rw [d2]; simp only [hI_us]
        rw [e_X12_ask]
        simp only [zLit, u2]
        rw [← d2]
        repeat' (first | (with_reducible apply hs_f; (case h => (first | (simp (disch := (first | exact hz _ _ | exact hv _ | exact hL | assumption | (simp (disch := decide) only [zup_ne]; exact hL) | (simp only [zR]; omega) | omega)) only [zLit, zI_div, hI_fs, hI_us, zI_add, zI_sub, zI_mul, zI_neg, zI_lt, zI_eq, zI_ite, xbd_s, zI_nat, zld, zst, zbd, zB_0, zB_1, lenX_s, zup_at, xgd, cond_true, cond_false, and_self, and_true, true_and, false_and, and_false, or_self, or_false, false_or, if_true, if_false, ite_true, ite_false, reduceIte, reduceCtorEq, Nat.reduceEqDiff, Nat.reduceAdd, Nat.reduceMul, Int.reduceNeg, Int.reduceAdd, Int.reduceSub, Int.reduceMul, Int.reduceLT, Int.reduceLE, Int.reduceEq, Int.reduceDiv, Int.reduceMod, Int.reduceToNat, Int.toNat_zero, Int.toNat_one, Nat.reduceLeDiff, Nat.reduceLT, ite_not, not_true, not_false_eq_true] <;> omega) | omega))) | (with_reducible apply hs_t; (case h => (first | (simp (disch := (first | exact hz _ _ | exact hv _ | exact hL | assumption | (simp (disch := decide) only [zup_ne]; exact hL) | (simp only [zR]; omega) | omega)) only [zLit, zI_div, hI_fs, hI_us, zI_add, zI_sub, zI_mul, zI_neg, zI_lt, zI_eq, zI_ite, xbd_s, zI_nat, zld, zst, zbd, zB_0, zB_1, lenX_s, zup_at, xgd, cond_true, cond_false, and_self, and_true, true_and, false_and, and_false, or_self, or_false, false_or, if_true, if_false, ite_true, ite_false, reduceIte, reduceCtorEq, Nat.reduceEqDiff, Nat.reduceAdd, Nat.reduceMul, Int.reduceNeg, Int.reduceAdd, Int.reduceSub, Int.reduceMul, Int.reduceLT, Int.reduceLE, Int.reduceEq, Int.reduceDiv, Int.reduceMod, Int.reduceToNat, Int.toNat_zero, Int.toNat_one, Nat.reduceLeDiff, Nat.reduceLT, ite_not, not_true, not_false_eq_true] <;> omega) | omega))) | (with_reducible apply hs_b; (case h => (simp (disch := (first | exact hz _ _ | exact hv _ | exact hL | assumption | (simp (disch := decide) only [zup_ne]; exact hL) | (simp only [zR]; omega) | omega)) only [zLit, zI_div, hI_fs, hI_us, zI_add, zI_sub, zI_mul, zI_neg, zI_lt, zI_eq, zI_ite, xbd_s, zI_nat, zld, zst, zbd, zB_0, zB_1, lenX_s, zup_at, xgd, cond_true, cond_false, and_self, and_true, true_and, false_and, and_false, or_self, or_false, false_or, if_true, if_false, ite_true, ite_false, reduceIte, reduceCtorEq, Nat.reduceEqDiff, Nat.reduceAdd, Nat.reduceMul, Int.reduceNeg, Int.reduceAdd, Int.reduceSub, Int.reduceMul, Int.reduceLT, Int.reduceLE, Int.reduceEq, Int.reduceDiv, Int.reduceMod, Int.reduceToNat, Int.toNat_zero, Int.toNat_one, Nat.reduceLeDiff, Nat.reduceLT, ite_not, not_true, not_false_eq_true, m_isFour, mf]; rfl)); try dsimp only) | (with_reducible apply hs_c <;> intro q9 <;> (try simp (disch := (first | exact hz _ _ | exact hv _ | exact hL | assumption | (simp (disch := decide) only [zup_ne]; exact hL) | (simp only [zR]; omega) | omega)) only [zLit, zI_div, hI_fs, hI_us, zI_add, zI_sub, zI_mul, zI_neg, zI_lt, zI_eq, zI_ite, xbd_s, zI_nat, zld, zst, zbd, zB_0, zB_1, lenX_s, zup_at, xgd, cond_true, cond_false, and_self, and_true, true_and, false_and, and_false, or_self, or_false, false_or, if_true, if_false, ite_true, ite_false, reduceIte, reduceCtorEq, Nat.reduceEqDiff, Nat.reduceAdd, Nat.reduceMul, Int.reduceNeg, Int.reduceAdd, Int.reduceSub, Int.reduceMul, Int.reduceLT, Int.reduceLE, Int.reduceEq, Int.reduceDiv, Int.reduceMod, Int.reduceToNat, Int.toNat_zero, Int.toNat_one, Nat.reduceLeDiff, Nat.reduceLT, ite_not, not_true, not_false_eq_true] at q9)))
        all_goals first | rfl | omega | (simp (maxSteps := 3000000) (disch := (first | exact hz _ _ | exact hv _ | exact hL | assumption | (simp (disch := decide) only [zup_ne]; exact hL) | (simp only [zR]; omega) | omega)) only [zLit, zI_div, hI_fs, hI_us, zI_add, zI_sub, zI_mul, zI_neg, zI_lt, zI_eq, zI_ite, xbd_s, zI_nat, zld, zst, zbd, zB_0, zB_1, lenX_s, zup_at, xgd, cond_true, cond_false, and_self, and_true, true_and, false_and, and_false, or_self, or_false, false_or, if_true, if_false, ite_true, ite_false, reduceIte, reduceCtorEq, Nat.reduceEqDiff, Nat.reduceAdd, Nat.reduceMul, Int.reduceNeg, Int.reduceAdd, Int.reduceSub, Int.reduceMul, Int.reduceLT, Int.reduceLE, Int.reduceEq, Int.reduceDiv, Int.reduceMod, Int.reduceToNat, Int.toNat_zero, Int.toNat_one, Nat.reduceLeDiff, Nat.reduceLT, ite_not, not_true, not_false_eq_true]; done) | (simp (maxSteps := 3000000) (disch := (first | exact hz _ _ | exact hv _ | exact hL | assumption | (simp (disch := decide) only [zup_ne]; exact hL) | (simp only [zR]; omega) | omega)) only [zLit, zI_div, hI_fs, hI_us, zI_add, zI_sub, zI_mul, zI_neg, zI_lt, zI_eq, zI_ite, xbd_s, zI_nat, zld, zst, zbd, zB_0, zB_1, lenX_s, zup_at, xgd, cond_true, cond_false, and_self, and_true, true_and, false_and, and_false, or_self, or_false, false_or, if_true, if_false, ite_true, ite_false, reduceIte, reduceCtorEq, Nat.reduceEqDiff, Nat.reduceAdd, Nat.reduceMul, Int.reduceNeg, Int.reduceAdd, Int.reduceSub, Int.reduceMul, Int.reduceLT, Int.reduceLE, Int.reduceEq, Int.reduceDiv, Int.reduceMod, Int.reduceToNat, Int.toNat_zero, Int.toNat_one, Nat.reduceLeDiff, Nat.reduceLT, ite_not, not_true, not_false_eq_true]; rfl)
    · have w3 : ¬ z 120 s = 3 := fun w => qf (Or.inl w)
      have wf : ¬ spForm z s = -1 := fun w => qf (Or.inr w)
      simp only [if_neg w3, if_neg wf] at cf
      have sh := hF.2 s qs.1 (by omega)
      -- what is held
      have held : (z 120 s = 1 ∧ (0 ≤ z 121 s ∧ z 121 s < z 101 7) ∧ spForm z s = z 101 (152 + 5 * z 121 s) ∧ (1 ≤ spForm z s ∧ spForm z s ≤ 5)) ∨ (z 120 s = 2 ∧ (0 ≤ z 121 s ∧ z 121 s < z 101 9) ∧ spForm z s = 6) := by
        by_cases w1 : z 120 s = 1
        · left
          by_cases w : 0 ≤ z 121 s ∧ z 121 s < z 101 7
          · have e : spForm z s = z 101 (152 + 5 * z 121 s) := by unfold spForm; rw [if_pos w1, if_pos w]
            have := (hE.2 _ w.1 w.2).1
            exact ⟨w1, w, e, by omega⟩
          · exfalso; apply wf; unfold spForm; rw [if_pos w1, if_neg w]
        · right
          by_cases w2 : z 120 s = 2
          · by_cases w : 0 ≤ z 121 s ∧ z 121 s < z 101 9
            · exact ⟨w2, w, by unfold spForm; rw [if_neg w1, if_pos w2, if_pos w]⟩
            · exfalso; apply wf; unfold spForm; rw [if_neg w1, if_pos w2, if_neg w]
          · exfalso; apply wf; unfold spForm; rw [if_neg w1, if_neg w2]
      have e71 : z 71 (3 * s + 1) = z 121 s := by
        rcases sh with ⟨a, b⟩ | ⟨a, b, c⟩ | ⟨a, b, c⟩ | ⟨a, b, c, e, f, g⟩
        · omega
        · exact c
        · exact c
        · omega
      have cn := fun d => c_shelfN d y0 (by rw [f0 70 rfl]; exact hF.1.2.1) s3 qs (k := 1) (by omega)
      simp only [f0 71 rfl, e71] at cn
      have b7 := hE.1.2.2.2.1
      have b9 := hSc.1.2.2.2.1
      generalize hFd : spForm z s = F at *
      generalize hnd : z 121 s = n at *
      have hF7 : 0 ≤ F ∧ F < 7 := by omega
      have hn9 : 0 ≤ n ∧ n ≤ 999 := by omega
      obtain ⟨a, had⟩ : ∃ a, a = if F = 6 then z 101 (276 + 4 * n) else z 101 (156 + 5 * n) := ⟨_, rfl⟩
      have ha9 : 0 ≤ a ∧ a ≤ 999 := by
        rcases held with ⟨-, w, -, e⟩ | ⟨-, w, e⟩
        · have := (hE.2 n w.1 w.2).2.2.2
          rw [if_neg (by omega)] at had
          omega
        · have := (hSc.2 n w.1 w.2).1
          rw [if_pos e] at had
          omega
      have hFr : zR F := zR_s (by omega)
      have hnr : zR n := zR_s (by omega)
      have har : zR a := zR_s (by omega)
      have SM := simA_all (F := F) (n := n) (a := a) hF7 ha9 hn9 8 (by omega) F q (zI x) 0 56 56 hF7 (by omega) (rkB_8 _) (by omega) (by omega) (by omega) (by omega)
      obtain ⟨r, z1, yd, E1, -, T1, g1, -, -⟩ := SM _ _ (Tr_prep hFr hnr har y0 hz c0)
      have F1 : fr [66, 67] z z1 := by
        refine fr_tr (S := [66, 67]) ?_ g1 rfl
        exact fr_up (fr_up (fr_up (fr_up f0 _ _ rfl) _ _ rfl) _ _ rfl) _ _ rfl
      have y1 := T1.1.1
      obtain ⟨r2, z2, y2, E3, E2, T2, g3, g2, k2⟩ := SM _ _ (Tr_prep hFr hnr har y0 y1 c0)
      have E1 : cM 58 4 [xR 16 66, xI (zI F), xI (zI q), xI (zI x), xI (zI 0)] (hI (prepC z0 F n a)) = some (r, hI z1) := E1
      have E3 : cM 58 4 [xR 16 66, xI (zI F), xI (zI q), xI (zI x), xI (zI 0)] (hI (prepC z0 F n a)) = some (r2, hI z2) := E3
      have E2 : cM 58 255 [xR 28 100, xI (zI F), xI (zI q), xI (zI x)] (hI (prepM z1 F n a)) = some (r2, hI y2) := E2
      have same : r = r2 ∧ hI z1 = hI z2 := by
        rw [E1] at E3
        injection E3 with E3
        injection E3 with e1 e2
        exact ⟨e1, e2⟩
      obtain ⟨er, eh⟩ := same
      subst er
      have pt := fun o {k : Int} (hk : 0 ≤ k) => hI_pt y1 T2.1.1 eh o hk
      have fl : z1 66 5 = y2 100 44 := by rw [pt 66 (by omega)]; exact T2.2.2.2.2.2.2.2.1
      obtain ⟨R, hR, eR⟩ := zI_ex (if zI (z1 66 5) = zI 0 then r else zI (-15))
      have FY : fr [66, 67, 100, 123] z y2 := by
        have w1 : fr [66, 67, 100, 123] z (prepM z1 F n a) := fr_up (fr_up (fr_up (fr_up (fr_up (fr_mono F1 rfl) _ _ rfl) _ _ rfl) _ _ rfl) _ _ rfl) _ _ rfl
        exact fr_tr w1 (fr_mono g2 (T := [66, 67, 100, 123]) rfl) rfl
      have GY : ff [40, 41, 42, 43, 44] z y2 := by
        have w1 : ff [40, 41, 42, 43, 44] z (prepM z1 F n a) := ff_up (ff_up (ff_up (ff_up (ff_up (fun k hk => by rw [F1 100 rfl]) _ rfl) _ rfl) _ rfl) _ rfl) _ rfl
        exact ff_tr w1 (ff_mono k2 (T := [40, 41, 42, 43, 44]) rfl) rfl
      have P66 : y2 66 = z1 66 := by
        rw [g2 66 rfl]
        show prepM z1 F n a 66 = z1 66
        unfold prepM
        rw [zup_ne _ _ _ (by decide), zup_ne _ _ _ (by decide), zup_ne _ _ _ (by decide), zup_ne _ _ _ (by decide), zup_ne _ _ _ (by decide)]
      have P67 : y2 67 = z1 67 := by
        rw [g2 67 rfl]
        show prepM z1 F n a 67 = z1 67
        unfold prepM
        rw [zup_ne _ _ _ (by decide), zup_ne _ _ _ (by decide), zup_ne _ _ _ (by decide), zup_ne _ _ _ (by decide), zup_ne _ _ _ (by decide)]
      have yY : zRR y2 := T2.1.2
      have y22 : zRR z2 := T2.1.1
      obtain ⟨-, -, -, -, t1, t2, t3, -⟩ := T2
      have inv : Inv y2 := Inv_trace hI0 yY FY GY ⟨by rw [P66, pt 66 (by omega)]; exact t1, t2, fun i i0 i1 => by rw [P67, pt 67 i0]; exact t3 i i0 i1⟩
      refine two_ex R z1 y2 hR y1 ?_ ?_ inv
      · have an : cM 59 1 [xR 16 66, xI (zI F), xI (zI n), xI (zI a), xI (zI q), xI (zI x)] (hI z0) = some (zI R, hI z1) := by
          rw [e_X0_answer]
          simp only [zLit, hI_us]
          rw [E1, xbd_n, ← eR]
          simp only [hI_fs, zI_neg]
          split <;> rfl
        rw [e_X11_ask]
        simp only [zLit, u0]
        have hz := y0
        rcases held with ⟨-, w, -, e⟩ | ⟨-, w, e⟩
        · rw [if_neg (by omega)] at had
          have ce := fun d => c_endN d y0 (v := z 101) (PEnds_t hE (f0 7 rfl) (f0 8 rfl) (fun _ _ => rfl)) (e := n) (f := 4) w (by omega)
          simp only [show 152 + 5 * n + 4 = 156 + 5 * n by omega, ← had] at ce
          repeat' (first | (with_reducible apply hs_f; (case h => (first | (simp (disch := (first | exact hz _ _ | exact hv _ | exact hL | assumption | (simp (disch := decide) only [zup_ne]; exact hL) | (simp only [zR]; omega) | omega)) only [zLit, zI_div, hI_fs, hI_us, zI_add, zI_sub, zI_mul, zI_neg, zI_lt, zI_eq, zI_ite, xbd_s, zI_nat, zld, zst, zbd, zB_0, zB_1, lenX_s, zup_at, xgd, cond_true, cond_false, and_self, and_true, true_and, false_and, and_false, or_self, or_false, false_or, if_true, if_false, ite_true, ite_false, reduceIte, reduceCtorEq, Nat.reduceEqDiff, Nat.reduceAdd, Nat.reduceMul, Int.reduceNeg, Int.reduceAdd, Int.reduceSub, Int.reduceMul, Int.reduceLT, Int.reduceLE, Int.reduceEq, Int.reduceDiv, Int.reduceMod, Int.reduceToNat, Int.toNat_zero, Int.toNat_one, Nat.reduceLeDiff, Nat.reduceLT, ite_not, not_true, not_false_eq_true, s3] <;> omega) | omega))) | (with_reducible apply hs_t; (case h => (first | (simp (disch := (first | exact hz _ _ | exact hv _ | exact hL | assumption | (simp (disch := decide) only [zup_ne]; exact hL) | (simp only [zR]; omega) | omega)) only [zLit, zI_div, hI_fs, hI_us, zI_add, zI_sub, zI_mul, zI_neg, zI_lt, zI_eq, zI_ite, xbd_s, zI_nat, zld, zst, zbd, zB_0, zB_1, lenX_s, zup_at, xgd, cond_true, cond_false, and_self, and_true, true_and, false_and, and_false, or_self, or_false, false_or, if_true, if_false, ite_true, ite_false, reduceIte, reduceCtorEq, Nat.reduceEqDiff, Nat.reduceAdd, Nat.reduceMul, Int.reduceNeg, Int.reduceAdd, Int.reduceSub, Int.reduceMul, Int.reduceLT, Int.reduceLE, Int.reduceEq, Int.reduceDiv, Int.reduceMod, Int.reduceToNat, Int.toNat_zero, Int.toNat_one, Nat.reduceLeDiff, Nat.reduceLT, ite_not, not_true, not_false_eq_true, s3] <;> omega) | omega))) | (with_reducible apply hs_b; (case h => (simp (disch := (first | exact hz _ _ | exact hv _ | exact hL | assumption | (simp (disch := decide) only [zup_ne]; exact hL) | (simp only [zR]; omega) | omega)) only [zLit, zI_div, hI_fs, hI_us, zI_add, zI_sub, zI_mul, zI_neg, zI_lt, zI_eq, zI_ite, xbd_s, zI_nat, zld, zst, zbd, zB_0, zB_1, lenX_s, zup_at, xgd, cond_true, cond_false, and_self, and_true, true_and, false_and, and_false, or_self, or_false, false_or, if_true, if_false, ite_true, ite_false, reduceIte, reduceCtorEq, Nat.reduceEqDiff, Nat.reduceAdd, Nat.reduceMul, Int.reduceNeg, Int.reduceAdd, Int.reduceSub, Int.reduceMul, Int.reduceLT, Int.reduceLE, Int.reduceEq, Int.reduceDiv, Int.reduceMod, Int.reduceToNat, Int.toNat_zero, Int.toNat_one, Nat.reduceLeDiff, Nat.reduceLT, ite_not, not_true, not_false_eq_true, s3, c_rHas, c_within, cf, cn, ce, an]; rfl)); try dsimp only) | (with_reducible apply hs_c <;> intro q9 <;> (try simp (disch := (first | exact hz _ _ | exact hv _ | exact hL | assumption | (simp (disch := decide) only [zup_ne]; exact hL) | (simp only [zR]; omega) | omega)) only [zLit, zI_div, hI_fs, hI_us, zI_add, zI_sub, zI_mul, zI_neg, zI_lt, zI_eq, zI_ite, xbd_s, zI_nat, zld, zst, zbd, zB_0, zB_1, lenX_s, zup_at, xgd, cond_true, cond_false, and_self, and_true, true_and, false_and, and_false, or_self, or_false, false_or, if_true, if_false, ite_true, ite_false, reduceIte, reduceCtorEq, Nat.reduceEqDiff, Nat.reduceAdd, Nat.reduceMul, Int.reduceNeg, Int.reduceAdd, Int.reduceSub, Int.reduceMul, Int.reduceLT, Int.reduceLE, Int.reduceEq, Int.reduceDiv, Int.reduceMod, Int.reduceToNat, Int.toNat_zero, Int.toNat_one, Nat.reduceLeDiff, Nat.reduceLT, ite_not, not_true, not_false_eq_true, s3] at q9)))
          all_goals first | rfl | omega | (simp (maxSteps := 3000000) (disch := (first | exact hz _ _ | exact hv _ | exact hL | assumption | (simp (disch := decide) only [zup_ne]; exact hL) | (simp only [zR]; omega) | omega)) only [zLit, zI_div, hI_fs, hI_us, zI_add, zI_sub, zI_mul, zI_neg, zI_lt, zI_eq, zI_ite, xbd_s, zI_nat, zld, zst, zbd, zB_0, zB_1, lenX_s, zup_at, xgd, cond_true, cond_false, and_self, and_true, true_and, false_and, and_false, or_self, or_false, false_or, if_true, if_false, ite_true, ite_false, reduceIte, reduceCtorEq, Nat.reduceEqDiff, Nat.reduceAdd, Nat.reduceMul, Int.reduceNeg, Int.reduceAdd, Int.reduceSub, Int.reduceMul, Int.reduceLT, Int.reduceLE, Int.reduceEq, Int.reduceDiv, Int.reduceMod, Int.reduceToNat, Int.toNat_zero, Int.toNat_one, Nat.reduceLeDiff, Nat.reduceLT, ite_not, not_true, not_false_eq_true]; done) | (simp (maxSteps := 3000000) (disch := (first | exact hz _ _ | exact hv _ | exact hL | assumption | (simp (disch := decide) only [zup_ne]; exact hL) | (simp only [zR]; omega) | omega)) only [zLit, zI_div, hI_fs, hI_us, zI_add, zI_sub, zI_mul, zI_neg, zI_lt, zI_eq, zI_ite, xbd_s, zI_nat, zld, zst, zbd, zB_0, zB_1, lenX_s, zup_at, xgd, cond_true, cond_false, and_self, and_true, true_and, false_and, and_false, or_self, or_false, false_or, if_true, if_false, ite_true, ite_false, reduceIte, reduceCtorEq, Nat.reduceEqDiff, Nat.reduceAdd, Nat.reduceMul, Int.reduceNeg, Int.reduceAdd, Int.reduceSub, Int.reduceMul, Int.reduceLT, Int.reduceLE, Int.reduceEq, Int.reduceDiv, Int.reduceMod, Int.reduceToNat, Int.toNat_zero, Int.toNat_one, Nat.reduceLeDiff, Nat.reduceLT, ite_not, not_true, not_false_eq_true]; rfl)
        · rw [if_pos e] at had
          have ce := fun d => c_sceneN d y0 (v := z 101) (PScenes_t hSc (f0 11 rfl) (f0 12 rfl) (fun _ _ => rfl)) (e := n) (f := 0) w (by omega)
          simp only [Int.add_zero, ← had] at ce
          repeat' (first | (with_reducible apply hs_f; (case h => (first | (simp (disch := (first | exact hz _ _ | exact hv _ | exact hL | assumption | (simp (disch := decide) only [zup_ne]; exact hL) | (simp only [zR]; omega) | omega)) only [zLit, zI_div, hI_fs, hI_us, zI_add, zI_sub, zI_mul, zI_neg, zI_lt, zI_eq, zI_ite, xbd_s, zI_nat, zld, zst, zbd, zB_0, zB_1, lenX_s, zup_at, xgd, cond_true, cond_false, and_self, and_true, true_and, false_and, and_false, or_self, or_false, false_or, if_true, if_false, ite_true, ite_false, reduceIte, reduceCtorEq, Nat.reduceEqDiff, Nat.reduceAdd, Nat.reduceMul, Int.reduceNeg, Int.reduceAdd, Int.reduceSub, Int.reduceMul, Int.reduceLT, Int.reduceLE, Int.reduceEq, Int.reduceDiv, Int.reduceMod, Int.reduceToNat, Int.toNat_zero, Int.toNat_one, Nat.reduceLeDiff, Nat.reduceLT, ite_not, not_true, not_false_eq_true, s3] <;> omega) | omega))) | (with_reducible apply hs_t; (case h => (first | (simp (disch := (first | exact hz _ _ | exact hv _ | exact hL | assumption | (simp (disch := decide) only [zup_ne]; exact hL) | (simp only [zR]; omega) | omega)) only [zLit, zI_div, hI_fs, hI_us, zI_add, zI_sub, zI_mul, zI_neg, zI_lt, zI_eq, zI_ite, xbd_s, zI_nat, zld, zst, zbd, zB_0, zB_1, lenX_s, zup_at, xgd, cond_true, cond_false, and_self, and_true, true_and, false_and, and_false, or_self, or_false, false_or, if_true, if_false, ite_true, ite_false, reduceIte, reduceCtorEq, Nat.reduceEqDiff, Nat.reduceAdd, Nat.reduceMul, Int.reduceNeg, Int.reduceAdd, Int.reduceSub, Int.reduceMul, Int.reduceLT, Int.reduceLE, Int.reduceEq, Int.reduceDiv, Int.reduceMod, Int.reduceToNat, Int.toNat_zero, Int.toNat_one, Nat.reduceLeDiff, Nat.reduceLT, ite_not, not_true, not_false_eq_true, s3] <;> omega) | omega))) | (with_reducible apply hs_b; (case h => (simp (disch := (first | exact hz _ _ | exact hv _ | exact hL | assumption | (simp (disch := decide) only [zup_ne]; exact hL) | (simp only [zR]; omega) | omega)) only [zLit, zI_div, hI_fs, hI_us, zI_add, zI_sub, zI_mul, zI_neg, zI_lt, zI_eq, zI_ite, xbd_s, zI_nat, zld, zst, zbd, zB_0, zB_1, lenX_s, zup_at, xgd, cond_true, cond_false, and_self, and_true, true_and, false_and, and_false, or_self, or_false, false_or, if_true, if_false, ite_true, ite_false, reduceIte, reduceCtorEq, Nat.reduceEqDiff, Nat.reduceAdd, Nat.reduceMul, Int.reduceNeg, Int.reduceAdd, Int.reduceSub, Int.reduceMul, Int.reduceLT, Int.reduceLE, Int.reduceEq, Int.reduceDiv, Int.reduceMod, Int.reduceToNat, Int.toNat_zero, Int.toNat_one, Nat.reduceLeDiff, Nat.reduceLT, ite_not, not_true, not_false_eq_true, s3, c_rHas, c_within, cf, cn, ce, an]; rfl)); try dsimp only) | (with_reducible apply hs_c <;> intro q9 <;> (try simp (disch := (first | exact hz _ _ | exact hv _ | exact hL | assumption | (simp (disch := decide) only [zup_ne]; exact hL) | (simp only [zR]; omega) | omega)) only [zLit, zI_div, hI_fs, hI_us, zI_add, zI_sub, zI_mul, zI_neg, zI_lt, zI_eq, zI_ite, xbd_s, zI_nat, zld, zst, zbd, zB_0, zB_1, lenX_s, zup_at, xgd, cond_true, cond_false, and_self, and_true, true_and, false_and, and_false, or_self, or_false, false_or, if_true, if_false, ite_true, ite_false, reduceIte, reduceCtorEq, Nat.reduceEqDiff, Nat.reduceAdd, Nat.reduceMul, Int.reduceNeg, Int.reduceAdd, Int.reduceSub, Int.reduceMul, Int.reduceLT, Int.reduceLE, Int.reduceEq, Int.reduceDiv, Int.reduceMod, Int.reduceToNat, Int.toNat_zero, Int.toNat_one, Nat.reduceLeDiff, Nat.reduceLT, ite_not, not_true, not_false_eq_true, s3] at q9)))
          all_goals first | rfl | omega | (simp (maxSteps := 3000000) (disch := (first | exact hz _ _ | exact hv _ | exact hL | assumption | (simp (disch := decide) only [zup_ne]; exact hL) | (simp only [zR]; omega) | omega)) only [zLit, zI_div, hI_fs, hI_us, zI_add, zI_sub, zI_mul, zI_neg, zI_lt, zI_eq, zI_ite, xbd_s, zI_nat, zld, zst, zbd, zB_0, zB_1, lenX_s, zup_at, xgd, cond_true, cond_false, and_self, and_true, true_and, false_and, and_false, or_self, or_false, false_or, if_true, if_false, ite_true, ite_false, reduceIte, reduceCtorEq, Nat.reduceEqDiff, Nat.reduceAdd, Nat.reduceMul, Int.reduceNeg, Int.reduceAdd, Int.reduceSub, Int.reduceMul, Int.reduceLT, Int.reduceLE, Int.reduceEq, Int.reduceDiv, Int.reduceMod, Int.reduceToNat, Int.toNat_zero, Int.toNat_one, Nat.reduceLeDiff, Nat.reduceLT, ite_not, not_true, not_false_eq_true]; done) | (simp (maxSteps := 3000000) (disch := (first | exact hz _ _ | exact hv _ | exact hL | assumption | (simp (disch := decide) only [zup_ne]; exact hL) | (simp only [zR]; omega) | omega)) only [zLit, zI_div, hI_fs, hI_us, zI_add, zI_sub, zI_mul, zI_neg, zI_lt, zI_eq, zI_ite, xbd_s, zI_nat, zld, zst, zbd, zB_0, zB_1, lenX_s, zup_at, xgd, cond_true, cond_false, and_self, and_true, true_and, false_and, and_false, or_self, or_false, false_or, if_true, if_false, ite_true, ite_false, reduceIte, reduceCtorEq, Nat.reduceEqDiff, Nat.reduceAdd, Nat.reduceMul, Int.reduceNeg, Int.reduceAdd, Int.reduceSub, Int.reduceMul, Int.reduceLT, Int.reduceLE, Int.reduceEq, Int.reduceDiv, Int.reduceMod, Int.reduceToNat, Int.toNat_zero, Int.toNat_one, Nat.reduceLeDiff, Nat.reduceLT, ite_not, not_true, not_false_eq_true]; rfl)
      · have an2 : cM 59 254 [xR 28 100, xI (zI q), xI (zI x)] (hI (prepM z1 F n a)) = some (r, hI y2) := by
          have e41 : hI (prepM z1 F n a) 100 41 = zI F := by
            rw [hI_n, show ((41 : Nat) : Int) = 41 from rfl]
            simp only [prepM, zup_at, and_self, and_true, true_and, and_false, false_and, if_true, if_false, reduceIte, Int.reduceEq, reduceCtorEq, Nat.reduceEqDiff]
          rw [e_X12_answer, e41, E2, xbd_n]
        have fin : (if hI y2 100 44 = zI 0 then some (r, hI y2) else some (zI (-15), hI y2)) = some (zI R, hI y2) := by
          rw [← eR, hI_n, show ((44 : Nat) : Int) = 44 from rfl, ← fl]
          split <;> rfl
        obtain ⟨Z0, dZ⟩ : ∃ Z0, Z0 = zup z1 100 40 0 := ⟨_, rfl⟩
        have yZ : zRR Z0 := by rw [dZ]; exact zRR_up y1 _ _ h0r
        have fZ : fr [66, 67, 100] z Z0 := by rw [dZ]; exact fr_up (fr_mono F1 rfl) _ _ rfl
        have WZ : PWorld 1 Z0 (Z0 101) := PWorld_t hW (fun i i0 i1 => fZ _ ((by decide : ∀ i, i < 22 → [66, 67, 100].elem (1 + i) = false) i i1)) (fun k _ => by rw [fZ 101 rfl])
        have mf := fun d => m_formOn2 d yZ WZ (s := s) qs
        have sfZ : spForm Z0 s = F := by
          rw [← hFd]
          unfold spForm
          rw [fZ 120 rfl, fZ 121 rfl, fZ 101 rfl]
        simp only [sfZ] at mf
        have uZ : xup (hI z1) 100 40 (zI 0) = hI Z0 := by rw [dZ]; simp only [hI_us]
        have sr : zR s := hs
        have bs : ¬ (zI s < zI 0 ∨ lenX 121 ≤ (zI s).toNatClampNeg) := by rw [zI_lt sr h0r, zI_nat sr]; simp only [lenX_s]; omega
        have e121 : hI Z0 121 (zI s).toNatClampNeg = zI n := by rw [zI_nat sr, zld qs.1, fZ 121 rfl, hnd]
        obtain ⟨Z1, dZ1⟩ : ∃ Z1, Z1 = zup (zup Z0 100 41 F) 100 42 n := ⟨_, rfl⟩
        have uZ1 : xup (xup (hI Z0) 100 41 (zI F)) 100 42 (zI n) = hI Z1 := by rw [dZ1]; simp only [hI_us]
        have v1 : Z1 101 = z 101 := by rw [dZ1, zup_ne _ _ _ (by decide), zup_ne _ _ _ (by decide), fZ 101 rfl]
        have uP : xup (xup (hI Z1) 100 43 (zI a)) 100 44 (zI 0) = hI (prepM z1 F n a) := by rw [dZ1, dZ]; simp only [hI_us]
        have m4 := fun d => m_isFour d hs (hI Z0)
        have m5 := fun d => m_isFour d hq (hI Z0)
        rw [e_X12_ask]
        simp only [zLit, uZ, m4, xbd_n, zB_0]
        rw [if_neg (fun w => w qs)]
        simp only [m5, xbd_n, zB_0]
        rw [if_neg (fun w => w qq)]
        simp only [mf, xbd_n]
        rw [if_neg (by rw [zI_lt hFr h0r]; omega), if_neg bs, e121, uZ1]
        rcases held with ⟨-, w, -, e⟩ | ⟨-, w, e⟩
        · rw [if_neg (by omega)] at had
          have me := fun d => m_end d (z := Z1) (e := n) (f := 4) (by omega) (by omega)
          simp only [v1, show 152 + 5 * n + 4 = 156 + 5 * n by omega, ← had] at me
          rw [if_neg (by rw [zI_eq hFr (zR_s (by omega))]; omega)]
          simp only [me, xbd_n]
          rw [uP]
          simp only [an2, xbd_n, zI_neg]
          exact fin
        · rw [if_pos e] at had
          have me := fun d => m_scene_ d (z := Z1) (e := n) (f := 0) (by omega) (by omega)
          simp only [v1, Int.add_zero, ← had] at me
          rw [if_pos (by rw [e])]
          simp only [me, xbd_n]
          rw [uP]
          simp only [an2, xbd_n, zI_neg]
          exact fin
  · refine none ?_ ?_
    · rw [e_X11_ask]
      simp only [zLit, u0]
      have hz := y0
      repeat' (first | (with_reducible apply hs_f; (case h => (first | (simp (disch := (first | exact hz _ _ | exact hv _ | exact hL | assumption | (simp (disch := decide) only [zup_ne]; exact hL) | (simp only [zR]; omega) | omega)) only [zLit, zI_div, hI_fs, hI_us, zI_add, zI_sub, zI_mul, zI_neg, zI_lt, zI_eq, zI_ite, xbd_s, zI_nat, zld, zst, zbd, zB_0, zB_1, lenX_s, zup_at, xgd, cond_true, cond_false, and_self, and_true, true_and, false_and, and_false, or_self, or_false, false_or, if_true, if_false, ite_true, ite_false, reduceIte, reduceCtorEq, Nat.reduceEqDiff, Nat.reduceAdd, Nat.reduceMul, Int.reduceNeg, Int.reduceAdd, Int.reduceSub, Int.reduceMul, Int.reduceLT, Int.reduceLE, Int.reduceEq, Int.reduceDiv, Int.reduceMod, Int.reduceToNat, Int.toNat_zero, Int.toNat_one, Nat.reduceLeDiff, Nat.reduceLT, ite_not, not_true, not_false_eq_true, s3] <;> omega) | omega))) | (with_reducible apply hs_t; (case h => (first | (simp (disch := (first | exact hz _ _ | exact hv _ | exact hL | assumption | (simp (disch := decide) only [zup_ne]; exact hL) | (simp only [zR]; omega) | omega)) only [zLit, zI_div, hI_fs, hI_us, zI_add, zI_sub, zI_mul, zI_neg, zI_lt, zI_eq, zI_ite, xbd_s, zI_nat, zld, zst, zbd, zB_0, zB_1, lenX_s, zup_at, xgd, cond_true, cond_false, and_self, and_true, true_and, false_and, and_false, or_self, or_false, false_or, if_true, if_false, ite_true, ite_false, reduceIte, reduceCtorEq, Nat.reduceEqDiff, Nat.reduceAdd, Nat.reduceMul, Int.reduceNeg, Int.reduceAdd, Int.reduceSub, Int.reduceMul, Int.reduceLT, Int.reduceLE, Int.reduceEq, Int.reduceDiv, Int.reduceMod, Int.reduceToNat, Int.toNat_zero, Int.toNat_one, Nat.reduceLeDiff, Nat.reduceLT, ite_not, not_true, not_false_eq_true, s3] <;> omega) | omega))) | (with_reducible apply hs_b; (case h => (simp (disch := (first | exact hz _ _ | exact hv _ | exact hL | assumption | (simp (disch := decide) only [zup_ne]; exact hL) | (simp only [zR]; omega) | omega)) only [zLit, zI_div, hI_fs, hI_us, zI_add, zI_sub, zI_mul, zI_neg, zI_lt, zI_eq, zI_ite, xbd_s, zI_nat, zld, zst, zbd, zB_0, zB_1, lenX_s, zup_at, xgd, cond_true, cond_false, and_self, and_true, true_and, false_and, and_false, or_self, or_false, false_or, if_true, if_false, ite_true, ite_false, reduceIte, reduceCtorEq, Nat.reduceEqDiff, Nat.reduceAdd, Nat.reduceMul, Int.reduceNeg, Int.reduceAdd, Int.reduceSub, Int.reduceMul, Int.reduceLT, Int.reduceLE, Int.reduceEq, Int.reduceDiv, Int.reduceMod, Int.reduceToNat, Int.toNat_zero, Int.toNat_one, Nat.reduceLeDiff, Nat.reduceLT, ite_not, not_true, not_false_eq_true, s3, c_rHas, c_within]; rfl)); try dsimp only) | (with_reducible apply hs_c <;> intro q9 <;> (try simp (disch := (first | exact hz _ _ | exact hv _ | exact hL | assumption | (simp (disch := decide) only [zup_ne]; exact hL) | (simp only [zR]; omega) | omega)) only [zLit, zI_div, hI_fs, hI_us, zI_add, zI_sub, zI_mul, zI_neg, zI_lt, zI_eq, zI_ite, xbd_s, zI_nat, zld, zst, zbd, zB_0, zB_1, lenX_s, zup_at, xgd, cond_true, cond_false, and_self, and_true, true_and, false_and, and_false, or_self, or_false, false_or, if_true, if_false, ite_true, ite_false, reduceIte, reduceCtorEq, Nat.reduceEqDiff, Nat.reduceAdd, Nat.reduceMul, Int.reduceNeg, Int.reduceAdd, Int.reduceSub, Int.reduceMul, Int.reduceLT, Int.reduceLE, Int.reduceEq, Int.reduceDiv, Int.reduceMod, Int.reduceToNat, Int.toNat_zero, Int.toNat_one, Nat.reduceLeDiff, Nat.reduceLT, ite_not, not_true, not_false_eq_true, s3] at q9)))
      all_goals first | rfl | omega | (simp (maxSteps := 3000000) (disch := (first | exact hz _ _ | exact hv _ | exact hL | assumption | (simp (disch := decide) only [zup_ne]; exact hL) | (simp only [zR]; omega) | omega)) only [zLit, zI_div, hI_fs, hI_us, zI_add, zI_sub, zI_mul, zI_neg, zI_lt, zI_eq, zI_ite, xbd_s, zI_nat, zld, zst, zbd, zB_0, zB_1, lenX_s, zup_at, xgd, cond_true, cond_false, and_self, and_true, true_and, false_and, and_false, or_self, or_false, false_or, if_true, if_false, ite_true, ite_false, reduceIte, reduceCtorEq, Nat.reduceEqDiff, Nat.reduceAdd, Nat.reduceMul, Int.reduceNeg, Int.reduceAdd, Int.reduceSub, Int.reduceMul, Int.reduceLT, Int.reduceLE, Int.reduceEq, Int.reduceDiv, Int.reduceMod, Int.reduceToNat, Int.toNat_zero, Int.toNat_one, Nat.reduceLeDiff, Nat.reduceLT, ite_not, not_true, not_false_eq_true]; done) | (simp (maxSteps := 3000000) (disch := (first | exact hz _ _ | exact hv _ | exact hL | assumption | (simp (disch := decide) only [zup_ne]; exact hL) | (simp only [zR]; omega) | omega)) only [zLit, zI_div, hI_fs, hI_us, zI_add, zI_sub, zI_mul, zI_neg, zI_lt, zI_eq, zI_ite, xbd_s, zI_nat, zld, zst, zbd, zB_0, zB_1, lenX_s, zup_at, xgd, cond_true, cond_false, and_self, and_true, true_and, false_and, and_false, or_self, or_false, false_or, if_true, if_false, ite_true, ite_false, reduceIte, reduceCtorEq, Nat.reduceEqDiff, Nat.reduceAdd, Nat.reduceMul, Int.reduceNeg, Int.reduceAdd, Int.reduceSub, Int.reduceMul, Int.reduceLT, Int.reduceLE, Int.reduceEq, Int.reduceDiv, Int.reduceMod, Int.reduceToNat, Int.toNat_zero, Int.toNat_one, Nat.reduceLeDiff, Nat.reduceLT, ite_not, not_true, not_false_eq_true]; rfl)
    · intro z1 f1 y1
      have u2 : xup (hI z1) 100 40 (zI 0) = hI (zup z1 100 40 0) := by simp only [hI_us]
      rw [e_X12_ask]
      simp only [zLit, u2]
      have hz : zRR (zup z1 100 40 0) := zRR_up y1 _ _ h0r
      repeat' (first | (with_reducible apply hs_f; (case h => (first | (simp (disch := (first | exact hz _ _ | exact hv _ | exact hL | assumption | (simp (disch := decide) only [zup_ne]; exact hL) | (simp only [zR]; omega) | omega)) only [zLit, zI_div, hI_fs, hI_us, zI_add, zI_sub, zI_mul, zI_neg, zI_lt, zI_eq, zI_ite, xbd_s, zI_nat, zld, zst, zbd, zB_0, zB_1, lenX_s, zup_at, xgd, cond_true, cond_false, and_self, and_true, true_and, false_and, and_false, or_self, or_false, false_or, if_true, if_false, ite_true, ite_false, reduceIte, reduceCtorEq, Nat.reduceEqDiff, Nat.reduceAdd, Nat.reduceMul, Int.reduceNeg, Int.reduceAdd, Int.reduceSub, Int.reduceMul, Int.reduceLT, Int.reduceLE, Int.reduceEq, Int.reduceDiv, Int.reduceMod, Int.reduceToNat, Int.toNat_zero, Int.toNat_one, Nat.reduceLeDiff, Nat.reduceLT, ite_not, not_true, not_false_eq_true] <;> omega) | omega))) | (with_reducible apply hs_t; (case h => (first | (simp (disch := (first | exact hz _ _ | exact hv _ | exact hL | assumption | (simp (disch := decide) only [zup_ne]; exact hL) | (simp only [zR]; omega) | omega)) only [zLit, zI_div, hI_fs, hI_us, zI_add, zI_sub, zI_mul, zI_neg, zI_lt, zI_eq, zI_ite, xbd_s, zI_nat, zld, zst, zbd, zB_0, zB_1, lenX_s, zup_at, xgd, cond_true, cond_false, and_self, and_true, true_and, false_and, and_false, or_self, or_false, false_or, if_true, if_false, ite_true, ite_false, reduceIte, reduceCtorEq, Nat.reduceEqDiff, Nat.reduceAdd, Nat.reduceMul, Int.reduceNeg, Int.reduceAdd, Int.reduceSub, Int.reduceMul, Int.reduceLT, Int.reduceLE, Int.reduceEq, Int.reduceDiv, Int.reduceMod, Int.reduceToNat, Int.toNat_zero, Int.toNat_one, Nat.reduceLeDiff, Nat.reduceLT, ite_not, not_true, not_false_eq_true] <;> omega) | omega))) | (with_reducible apply hs_b; (case h => (simp (disch := (first | exact hz _ _ | exact hv _ | exact hL | assumption | (simp (disch := decide) only [zup_ne]; exact hL) | (simp only [zR]; omega) | omega)) only [zLit, zI_div, hI_fs, hI_us, zI_add, zI_sub, zI_mul, zI_neg, zI_lt, zI_eq, zI_ite, xbd_s, zI_nat, zld, zst, zbd, zB_0, zB_1, lenX_s, zup_at, xgd, cond_true, cond_false, and_self, and_true, true_and, false_and, and_false, or_self, or_false, false_or, if_true, if_false, ite_true, ite_false, reduceIte, reduceCtorEq, Nat.reduceEqDiff, Nat.reduceAdd, Nat.reduceMul, Int.reduceNeg, Int.reduceAdd, Int.reduceSub, Int.reduceMul, Int.reduceLT, Int.reduceLE, Int.reduceEq, Int.reduceDiv, Int.reduceMod, Int.reduceToNat, Int.toNat_zero, Int.toNat_one, Nat.reduceLeDiff, Nat.reduceLT, ite_not, not_true, not_false_eq_true, m_isFour]; rfl)); try dsimp only) | (with_reducible apply hs_c <;> intro q9 <;> (try simp (disch := (first | exact hz _ _ | exact hv _ | exact hL | assumption | (simp (disch := decide) only [zup_ne]; exact hL) | (simp only [zR]; omega) | omega)) only [zLit, zI_div, hI_fs, hI_us, zI_add, zI_sub, zI_mul, zI_neg, zI_lt, zI_eq, zI_ite, xbd_s, zI_nat, zld, zst, zbd, zB_0, zB_1, lenX_s, zup_at, xgd, cond_true, cond_false, and_self, and_true, true_and, false_and, and_false, or_self, or_false, false_or, if_true, if_false, ite_true, ite_false, reduceIte, reduceCtorEq, Nat.reduceEqDiff, Nat.reduceAdd, Nat.reduceMul, Int.reduceNeg, Int.reduceAdd, Int.reduceSub, Int.reduceMul, Int.reduceLT, Int.reduceLE, Int.reduceEq, Int.reduceDiv, Int.reduceMod, Int.reduceToNat, Int.toNat_zero, Int.toNat_one, Nat.reduceLeDiff, Nat.reduceLT, ite_not, not_true, not_false_eq_true] at q9)))
      all_goals first | rfl | omega | (simp (maxSteps := 3000000) (disch := (first | exact hz _ _ | exact hv _ | exact hL | assumption | (simp (disch := decide) only [zup_ne]; exact hL) | (simp only [zR]; omega) | omega)) only [zLit, zI_div, hI_fs, hI_us, zI_add, zI_sub, zI_mul, zI_neg, zI_lt, zI_eq, zI_ite, xbd_s, zI_nat, zld, zst, zbd, zB_0, zB_1, lenX_s, zup_at, xgd, cond_true, cond_false, and_self, and_true, true_and, false_and, and_false, or_self, or_false, false_or, if_true, if_false, ite_true, ite_false, reduceIte, reduceCtorEq, Nat.reduceEqDiff, Nat.reduceAdd, Nat.reduceMul, Int.reduceNeg, Int.reduceAdd, Int.reduceSub, Int.reduceMul, Int.reduceLT, Int.reduceLE, Int.reduceEq, Int.reduceDiv, Int.reduceMod, Int.reduceToNat, Int.toNat_zero, Int.toNat_one, Nat.reduceLeDiff, Nat.reduceLT, ite_not, not_true, not_false_eq_true]; done) | (simp (maxSteps := 3000000) (disch := (first | exact hz _ _ | exact hv _ | exact hL | assumption | (simp (disch := decide) only [zup_ne]; exact hL) | (simp only [zR]; omega) | omega)) only [zLit, zI_div, hI_fs, hI_us, zI_add, zI_sub, zI_mul, zI_neg, zI_lt, zI_eq, zI_ite, xbd_s, zI_nat, zld, zst, zbd, zB_0, zB_1, lenX_s, zup_at, xgd, cond_true, cond_false, and_self, and_true, true_and, false_and, and_false, or_self, or_false, false_or, if_true, if_false, ite_true, ite_false, reduceIte, reduceCtorEq, Nat.reduceEqDiff, Nat.reduceAdd, Nat.reduceMul, Int.reduceNeg, Int.reduceAdd, Int.reduceSub, Int.reduceMul, Int.reduceLT, Int.reduceLE, Int.reduceEq, Int.reduceDiv, Int.reduceMod, Int.reduceToNat, Int.toNat_zero, Int.toNat_one, Nat.reduceLeDiff, Nat.reduceLT, ite_not, not_true, not_false_eq_true]; rfl)
