/-! PURE, part 59: what each side finds; SPARE -/
abbrev Tg (v : Int → Int) (e : Int) : crft → Prop := fun c => goodE v e c.1 c.2.2.1
theorem ends_c {z : zH} {v : Int → Int} (hL : LandI v) (hE : PEnds 7 z v) {e : Int} (he : 0 ≤ e ∧ e < v 7) : 0 ≤ v (153 + 5 * e) ∧ v (153 + 5 * e) < 64 := by
  have har := area hL.1 hL.2.1
  have := (hE.2 e he.1 he.2).2.1
  omega
theorem c_gg (d : Nat) {v : Int → Int} (hv : ∀ k, zR (v k)) (hL : LandI v) {c0 : crft} (ok0 : okC v c0) {z0 z : zH} (hz : zRR z) (hE : PEnds 7 z v) {e g : Int} (he : 0 ≤ e ∧ e < v 7) (hg : g = e ∨ g = -3) (hP : PostS v c0 g z0 z) : xw (cM (d + 5) 54 [xR 22 50, xR 26 1, xI (zI e)] (hI z)) (fun r z' => z' = z ∧ GR v c0 (Tg v e) r) := by
  have hc := ends_c hL hE he
  refine xw_m (c_greatest d hv hz hE he hc) ?_
  intro r z1 _ _ ⟨e1, hm⟩
  obtain ⟨p1, p2, ⟨H, p3, p4, p5⟩, -⟩ := hP
  refine ⟨e1, GR_mx hL ok0 hc p1 p2 p4 ?_ hm⟩
  rcases p5 with w | ⟨p, q0, q1, q2, q3, q4⟩
  · left; exact w
  · right
    rcases hg with w | w
    · subst w; exact ⟨p, q0, q1, q2, q4⟩
    · omega
theorem m_gg (d : Nat) {v : Int → Int} (hL : LandI v) {c0 : crft} (ok0 : okC v c0) {z0 z zE : zH} (hz : zRR z) (hE : PEnds 7 zE v) (hv : z 101 = v) {e : Int} (he : 0 ≤ e ∧ e < v 7) (hP : PostM v c0 z0 z) : xw (cM (d + 3) 182 [xR 28 100, xI (zI e)] (hI z)) (fun r z' => z' = z ∧ GR v c0 (Tg v e) r) := by
  subst hv
  have hc := ends_c hL hE he
  have h7 := hE.1.2.2.2.1
  refine xw_m (m_heightAt d hz ⟨he.1, by omega⟩ hc) ?_
  intro r z1 _ _ ⟨e1, hm⟩
  obtain ⟨p1, p2, p3, -⟩ := hP
  exact ⟨e1, GR_mx hL ok0 hc p1 p2 p3 (Or.inl rfl) hm⟩
/-- what stands of the class when only the search's rows changed -/
theorem GR_le {v : Int → Int} (hL : LandI v) {c0 : crft} (h0 : okC v c0) {T : crft → Prop} {g : Int} (h : GR v c0 T g) : 0 ≤ g → g ≤ 99 := by
  intro g0
  obtain ⟨c, c1, c2, c3⟩ := h.1 g0
  have := (Rch_ok hL h0 c1).2.2.2
  omega
def spSpare (v : Int → Int) (e g : Int) : Int := if g < 0 then -3 else if 0 < g - v (24 + v (153 + 5 * e)) then g - v (24 + v (153 + 5 * e)) else 0
theorem k_spare {z : zH} (h : Inv z) {a : Int} (ha : zR a) : two 108 183 [xI (zI a)] z := by
  have hI0 := h
  obtain ⟨hz, hW, hK, hT, hO, hSh, hF, hCt⟩ := h
  have hL := hW.1.2
  have har := area hL.1 hL.2.1
  have hR := RLand_R hW.1.1
  have hC : PCraft 6 z (z 101) := hW.2.1
  have hE : PEnds 7 z (z 101) := hW.2.2.1
  have hcr := PCraft_cr hC
  have ok0 : okC (z 101) (crV (z 101)) := hC.2.2.2.2.2.1
  have r7 : z 7 3 = z 101 7 := hE.1.2.2.1
  have b7 : 0 ≤ z 101 7 ∧ z 101 7 ≤ 8 := hE.1.2.2.2.1
  have h0r : zR 0 := zR_s (by omega)
  by_cases q : 0 ≤ a ∧ a < z 101 7
  · have hc := ends_c hL hE q
    have gr := hL.2.2.1 _ hc.1 hc.2
    have hv : ∀ k, zR (z 101 k) := hz 101
    refine xw_m (P := fun r z1 => (∃ g, GR (z 101) (crV (z 101)) (Tg (z 101) a) g ∧ r = spSpare (z 101) a g) ∧ Inv z1 ∧ z1 101 = z 101) ?_ ?_
    · have ch := fun d => c_rHas d hz (o := 7) ha
      rw [e_X11_spare]
      simp only [zLit, zI_neg, ch, xbd_n, zB_0, r7]
      rw [if_neg (fun x => x q)]
      refine xw_k (c_search _ hv hL hz hR hE (o := 6) ⟨by decide, by decide⟩ (by rw [hcr]; exact ok0) ha) ?_
      intro r1 z1 hr1 hz1 hP
      have f : fr [51, 52, 53, 54] z z1 := hP.2.2.2
      rw [hcr] at hP
      have hE1 : PEnds 7 z1 (z 101) := PEnds_t hE (f 7 rfl) (f 8 rfl) (fun _ _ => rfl)
      have hR1 : LandR z1 (z 101) := LandR_fr hR f rfl rfl rfl rfl
      have inv1 : Inv z1 := Inv_scrC hI0 hz1 (fr_mono f rfl)
      refine xw_k (c_gg _ hv hL ok0 hz1 hE1 q (Or.inl rfl) hP) ?_
      intro g z2 hr2 hz2 ⟨e2, hg⟩
      subst e2
      have g9 := GR_le hL ok0 hg
      unfold spSpare at *
      by_cases w : g < 0
      · rw [if_pos (by rw [zI_lt hr2 h0r]; exact w)]
        exact xw_ret (zR_s (by omega)) hz1 ⟨⟨g, hg, (if_pos w).symm⟩, inv1, f 101 rfl⟩
      · rw [if_neg (by rw [zI_lt hr2 h0r]; exact w)]
        have cn := fun d => c_endN d hz1 hE1 (e := a) (f := 1) q (by omega)
        rw [show 152 + 5 * a + 1 = 153 + 5 * a by omega] at cn
        have cgr := fun d => c_ground d hR1 (c := z 101 (153 + 5 * a)) hc
        simp only [cn, xbd_n]
        simp only [cgr, xbd_n, zI_sub, zI_ilt h0r (show zR (g - z 101 (24 + z 101 (153 + 5 * a))) from zR_s (by omega))]
        refine xw_ret (by split <;> exact zR_s (by omega)) hz1 ⟨⟨g, hg, (if_neg w).symm⟩, inv1, f 101 rfl⟩
    · intro r z1 hr hz1 ⟨⟨g, hg, er⟩, inv1, e1⟩
      have mi := fun d => m_is d hz1 (a := a) (b := 7) ha (by omega) (by rw [e1]; omega)
      rw [e_X12_spare]
      simp only [zLit, zI_neg, mi, xbd_n, zB_0, e1]
      rw [if_neg (fun x => x q)]
      refine xw_k (m_beginW _ hz1) ?_
      intro r2 z2 hr2 hz2 ⟨c2, f2, g2⟩
      rw [e1] at c2
      have e2 : z2 101 = z 101 := (f2 101 rfl).trans e1
      have c2' : crM z2 = crV (z 101) := c2
      refine xw_k (m_reach _ hz2 (by rw [e2]; exact hL) (by rw [e2, c2']; exact ok0)) ?_
      intro r3 z3 hr3 hz3 hP
      have f3 := hP.2.2.2
      rw [e2, c2'] at hP
      have e3 : z3 101 = z 101 := (f3.1 101 rfl).trans e2
      have inv3 : Inv z3 := Inv_scrM inv1 hz3 (fr_tr (fr_mono f2 (T := scrM) rfl) (fr_mono f3.1 rfl) rfl) (ff_tr (ff_mono g2 (T := [5, 6, 7, 8, 13]) rfl) f3.2 rfl) rfl rfl rfl rfl
      refine xw_k (m_gg _ hL ok0 hz3 hE e3 q hP) ?_
      intro g' z4 hr4 hz4 ⟨e4, hg'⟩
      subst e4
      have uu := GR_u hL ok0 hg hg'
      have g9 := GR_le hL ok0 hg
      subst er
      by_cases w : g < 0
      · rw [if_pos (by rw [zI_lt hr4 h0r]; exact uu.1.mp w)]
        refine xw_ret (zR_s (by omega)) hz3 ⟨?_, inv3⟩
        unfold spSpare
        rw [if_pos w]
      · have eg : g = g' := uu.2 (by omega)
        subst eg
        rw [if_neg (by rw [zI_lt hr4 h0r]; exact w)]
        have me := fun d => m_end d (z := z4) (e := a) (f := 1) (by omega) (by omega)
        rw [show 152 + 5 * a + 1 = 153 + 5 * a by omega, e3] at me
        simp only [me, xbd_n, zI_add]
        have cr : zR (24 + z 101 (153 + 5 * a)) := zR_s (by omega)
        have bc := bnd (a := 24 + z 101 (153 + 5 * a)) (n := 572) (by omega) (by omega) (by omega)
        have ec : hI z4 101 (zI (24 + z 101 (153 + 5 * a))).toNatClampNeg = zI (z 101 (24 + z 101 (153 + 5 * a))) := by rw [zI_nat cr, zld (by omega), e3]
        simp only [lenX_s, if_neg bc, ec, zI_sub, zI_ilt h0r (show zR (g - z 101 (24 + z 101 (153 + 5 * a))) from zR_s (by omega))]
        refine xw_ret (by split <;> exact zR_s (by omega)) hz3 ⟨?_, inv3⟩
        unfold spSpare
        rw [if_neg w]
  · refine two_ro hI0 (-1) (by simp only [zR]; omega) ?_ ?_
    · rw [e_X11_spare]
      repeat' (first | (with_reducible apply hs_f; (case h => (first | (simp (disch := (first | exact hz _ _ | exact hv _ | exact hL | assumption | (simp (disch := decide) only [zup_ne]; exact hL) | (simp only [zR]; omega) | omega)) only [zLit, zI_div, hI_fs, hI_us, zI_add, zI_sub, zI_mul, zI_neg, zI_lt, zI_eq, zI_ite, xbd_s, zI_nat, zld, zst, zbd, zB_0, zB_1, lenX_s, zup_at, xgd, cond_true, cond_false, and_self, and_true, true_and, false_and, and_false, or_self, or_false, false_or, if_true, if_false, ite_true, ite_false, reduceIte, reduceCtorEq, Nat.reduceEqDiff, Nat.reduceAdd, Nat.reduceMul, Int.reduceNeg, Int.reduceAdd, Int.reduceSub, Int.reduceMul, Int.reduceLT, Int.reduceLE, Int.reduceEq, Int.reduceDiv, Int.reduceMod, Int.reduceToNat, Int.toNat_zero, Int.toNat_one, Nat.reduceLeDiff, Nat.reduceLT, ite_not, not_true, not_false_eq_true, r7] <;> omega) | omega))) | (with_reducible apply hs_t; (case h => (first | (simp (disch := (first | exact hz _ _ | exact hv _ | exact hL | assumption | (simp (disch := decide) only [zup_ne]; exact hL) | (simp only [zR]; omega) | omega)) only [zLit, zI_div, hI_fs, hI_us, zI_add, zI_sub, zI_mul, zI_neg, zI_lt, zI_eq, zI_ite, xbd_s, zI_nat, zld, zst, zbd, zB_0, zB_1, lenX_s, zup_at, xgd, cond_true, cond_false, and_self, and_true, true_and, false_and, and_false, or_self, or_false, false_or, if_true, if_false, ite_true, ite_false, reduceIte, reduceCtorEq, Nat.reduceEqDiff, Nat.reduceAdd, Nat.reduceMul, Int.reduceNeg, Int.reduceAdd, Int.reduceSub, Int.reduceMul, Int.reduceLT, Int.reduceLE, Int.reduceEq, Int.reduceDiv, Int.reduceMod, Int.reduceToNat, Int.toNat_zero, Int.toNat_one, Nat.reduceLeDiff, Nat.reduceLT, ite_not, not_true, not_false_eq_true, r7] <;> omega) | omega))) | (with_reducible apply hs_b; (case h => (simp (disch := (first | exact hz _ _ | exact hv _ | exact hL | assumption | (simp (disch := decide) only [zup_ne]; exact hL) | (simp only [zR]; omega) | omega)) only [zLit, zI_div, hI_fs, hI_us, zI_add, zI_sub, zI_mul, zI_neg, zI_lt, zI_eq, zI_ite, xbd_s, zI_nat, zld, zst, zbd, zB_0, zB_1, lenX_s, zup_at, xgd, cond_true, cond_false, and_self, and_true, true_and, false_and, and_false, or_self, or_false, false_or, if_true, if_false, ite_true, ite_false, reduceIte, reduceCtorEq, Nat.reduceEqDiff, Nat.reduceAdd, Nat.reduceMul, Int.reduceNeg, Int.reduceAdd, Int.reduceSub, Int.reduceMul, Int.reduceLT, Int.reduceLE, Int.reduceEq, Int.reduceDiv, Int.reduceMod, Int.reduceToNat, Int.toNat_zero, Int.toNat_one, Nat.reduceLeDiff, Nat.reduceLT, ite_not, not_true, not_false_eq_true, r7, c_rHas]; rfl)); try dsimp only) | (with_reducible apply hs_c <;> intro q9 <;> (try simp (disch := (first | exact hz _ _ | exact hv _ | exact hL | assumption | (simp (disch := decide) only [zup_ne]; exact hL) | (simp only [zR]; omega) | omega)) only [zLit, zI_div, hI_fs, hI_us, zI_add, zI_sub, zI_mul, zI_neg, zI_lt, zI_eq, zI_ite, xbd_s, zI_nat, zld, zst, zbd, zB_0, zB_1, lenX_s, zup_at, xgd, cond_true, cond_false, and_self, and_true, true_and, false_and, and_false, or_self, or_false, false_or, if_true, if_false, ite_true, ite_false, reduceIte, reduceCtorEq, Nat.reduceEqDiff, Nat.reduceAdd, Nat.reduceMul, Int.reduceNeg, Int.reduceAdd, Int.reduceSub, Int.reduceMul, Int.reduceLT, Int.reduceLE, Int.reduceEq, Int.reduceDiv, Int.reduceMod, Int.reduceToNat, Int.toNat_zero, Int.toNat_one, Nat.reduceLeDiff, Nat.reduceLT, ite_not, not_true, not_false_eq_true, r7] at q9)))
      all_goals first | rfl | omega | (simp (maxSteps := 3000000) (disch := (first | exact hz _ _ | exact hv _ | exact hL | assumption | (simp (disch := decide) only [zup_ne]; exact hL) | (simp only [zR]; omega) | omega)) only [zLit, zI_div, hI_fs, hI_us, zI_add, zI_sub, zI_mul, zI_neg, zI_lt, zI_eq, zI_ite, xbd_s, zI_nat, zld, zst, zbd, zB_0, zB_1, lenX_s, zup_at, xgd, cond_true, cond_false, and_self, and_true, true_and, false_and, and_false, or_self, or_false, false_or, if_true, if_false, ite_true, ite_false, reduceIte, reduceCtorEq, Nat.reduceEqDiff, Nat.reduceAdd, Nat.reduceMul, Int.reduceNeg, Int.reduceAdd, Int.reduceSub, Int.reduceMul, Int.reduceLT, Int.reduceLE, Int.reduceEq, Int.reduceDiv, Int.reduceMod, Int.reduceToNat, Int.toNat_zero, Int.toNat_one, Nat.reduceLeDiff, Nat.reduceLT, ite_not, not_true, not_false_eq_true]; done) | (simp (maxSteps := 3000000) (disch := (first | exact hz _ _ | exact hv _ | exact hL | assumption | (simp (disch := decide) only [zup_ne]; exact hL) | (simp only [zR]; omega) | omega)) only [zLit, zI_div, hI_fs, hI_us, zI_add, zI_sub, zI_mul, zI_neg, zI_lt, zI_eq, zI_ite, xbd_s, zI_nat, zld, zst, zbd, zB_0, zB_1, lenX_s, zup_at, xgd, cond_true, cond_false, and_self, and_true, true_and, false_and, and_false, or_self, or_false, false_or, if_true, if_false, ite_true, ite_false, reduceIte, reduceCtorEq, Nat.reduceEqDiff, Nat.reduceAdd, Nat.reduceMul, Int.reduceNeg, Int.reduceAdd, Int.reduceSub, Int.reduceMul, Int.reduceLT, Int.reduceLE, Int.reduceEq, Int.reduceDiv, Int.reduceMod, Int.reduceToNat, Int.toNat_zero, Int.toNat_one, Nat.reduceLeDiff, Nat.reduceLT, ite_not, not_true, not_false_eq_true]; rfl)
    · rw [e_X12_spare]
      repeat' (first | (with_reducible apply hs_f; (case h => (first | (simp (disch := (first | exact hz _ _ | exact hv _ | exact hL | assumption | (simp (disch := decide) only [zup_ne]; exact hL) | (simp only [zR]; omega) | omega)) only [zLit, zI_div, hI_fs, hI_us, zI_add, zI_sub, zI_mul, zI_neg, zI_lt, zI_eq, zI_ite, xbd_s, zI_nat, zld, zst, zbd, zB_0, zB_1, lenX_s, zup_at, xgd, cond_true, cond_false, and_self, and_true, true_and, false_and, and_false, or_self, or_false, false_or, if_true, if_false, ite_true, ite_false, reduceIte, reduceCtorEq, Nat.reduceEqDiff, Nat.reduceAdd, Nat.reduceMul, Int.reduceNeg, Int.reduceAdd, Int.reduceSub, Int.reduceMul, Int.reduceLT, Int.reduceLE, Int.reduceEq, Int.reduceDiv, Int.reduceMod, Int.reduceToNat, Int.toNat_zero, Int.toNat_one, Nat.reduceLeDiff, Nat.reduceLT, ite_not, not_true, not_false_eq_true] <;> omega) | omega))) | (with_reducible apply hs_t; (case h => (first | (simp (disch := (first | exact hz _ _ | exact hv _ | exact hL | assumption | (simp (disch := decide) only [zup_ne]; exact hL) | (simp only [zR]; omega) | omega)) only [zLit, zI_div, hI_fs, hI_us, zI_add, zI_sub, zI_mul, zI_neg, zI_lt, zI_eq, zI_ite, xbd_s, zI_nat, zld, zst, zbd, zB_0, zB_1, lenX_s, zup_at, xgd, cond_true, cond_false, and_self, and_true, true_and, false_and, and_false, or_self, or_false, false_or, if_true, if_false, ite_true, ite_false, reduceIte, reduceCtorEq, Nat.reduceEqDiff, Nat.reduceAdd, Nat.reduceMul, Int.reduceNeg, Int.reduceAdd, Int.reduceSub, Int.reduceMul, Int.reduceLT, Int.reduceLE, Int.reduceEq, Int.reduceDiv, Int.reduceMod, Int.reduceToNat, Int.toNat_zero, Int.toNat_one, Nat.reduceLeDiff, Nat.reduceLT, ite_not, not_true, not_false_eq_true] <;> omega) | omega))) | (with_reducible apply hs_b; (case h => (simp (disch := (first | exact hz _ _ | exact hv _ | exact hL | assumption | (simp (disch := decide) only [zup_ne]; exact hL) | (simp only [zR]; omega) | omega)) only [zLit, zI_div, hI_fs, hI_us, zI_add, zI_sub, zI_mul, zI_neg, zI_lt, zI_eq, zI_ite, xbd_s, zI_nat, zld, zst, zbd, zB_0, zB_1, lenX_s, zup_at, xgd, cond_true, cond_false, and_self, and_true, true_and, false_and, and_false, or_self, or_false, false_or, if_true, if_false, ite_true, ite_false, reduceIte, reduceCtorEq, Nat.reduceEqDiff, Nat.reduceAdd, Nat.reduceMul, Int.reduceNeg, Int.reduceAdd, Int.reduceSub, Int.reduceMul, Int.reduceLT, Int.reduceLE, Int.reduceEq, Int.reduceDiv, Int.reduceMod, Int.reduceToNat, Int.toNat_zero, Int.toNat_one, Nat.reduceLeDiff, Nat.reduceLT, ite_not, not_true, not_false_eq_true, m_is]; rfl)); try dsimp only) | (with_reducible apply hs_c <;> intro q9 <;> (try simp (disch := (first | exact hz _ _ | exact hv _ | exact hL | assumption | (simp (disch := decide) only [zup_ne]; exact hL) | (simp only [zR]; omega) | omega)) only [zLit, zI_div, hI_fs, hI_us, zI_add, zI_sub, zI_mul, zI_neg, zI_lt, zI_eq, zI_ite, xbd_s, zI_nat, zld, zst, zbd, zB_0, zB_1, lenX_s, zup_at, xgd, cond_true, cond_false, and_self, and_true, true_and, false_and, and_false, or_self, or_false, false_or, if_true, if_false, ite_true, ite_false, reduceIte, reduceCtorEq, Nat.reduceEqDiff, Nat.reduceAdd, Nat.reduceMul, Int.reduceNeg, Int.reduceAdd, Int.reduceSub, Int.reduceMul, Int.reduceLT, Int.reduceLE, Int.reduceEq, Int.reduceDiv, Int.reduceMod, Int.reduceToNat, Int.toNat_zero, Int.toNat_one, Nat.reduceLeDiff, Nat.reduceLT, ite_not, not_true, not_false_eq_true] at q9)))
      all_goals first | rfl | omega | (simp (maxSteps := 3000000) (disch := (first | exact hz _ _ | exact hv _ | exact hL | assumption | (simp (disch := decide) only [zup_ne]; exact hL) | (simp only [zR]; omega) | omega)) only [zLit, zI_div, hI_fs, hI_us, zI_add, zI_sub, zI_mul, zI_neg, zI_lt, zI_eq, zI_ite, xbd_s, zI_nat, zld, zst, zbd, zB_0, zB_1, lenX_s, zup_at, xgd, cond_true, cond_false, and_self, and_true, true_and, false_and, and_false, or_self, or_false, false_or, if_true, if_false, ite_true, ite_false, reduceIte, reduceCtorEq, Nat.reduceEqDiff, Nat.reduceAdd, Nat.reduceMul, Int.reduceNeg, Int.reduceAdd, Int.reduceSub, Int.reduceMul, Int.reduceLT, Int.reduceLE, Int.reduceEq, Int.reduceDiv, Int.reduceMod, Int.reduceToNat, Int.toNat_zero, Int.toNat_one, Nat.reduceLeDiff, Nat.reduceLT, ite_not, not_true, not_false_eq_true]; done) | (simp (maxSteps := 3000000) (disch := (first | exact hz _ _ | exact hv _ | exact hL | assumption | (simp (disch := decide) only [zup_ne]; exact hL) | (simp only [zR]; omega) | omega)) only [zLit, zI_div, hI_fs, hI_us, zI_add, zI_sub, zI_mul, zI_neg, zI_lt, zI_eq, zI_ite, xbd_s, zI_nat, zld, zst, zbd, zB_0, zB_1, lenX_s, zup_at, xgd, cond_true, cond_false, and_self, and_true, true_and, false_and, and_false, or_self, or_false, false_or, if_true, if_false, ite_true, ite_false, reduceIte, reduceCtorEq, Nat.reduceEqDiff, Nat.reduceAdd, Nat.reduceMul, Int.reduceNeg, Int.reduceAdd, Int.reduceSub, Int.reduceMul, Int.reduceLT, Int.reduceLE, Int.reduceEq, Int.reduceDiv, Int.reduceMod, Int.reduceToNat, Int.toNat_zero, Int.toNat_one, Nat.reduceLeDiff, Nat.reduceLT, ite_not, not_true, not_false_eq_true]; rfl)
