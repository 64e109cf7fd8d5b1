/-! PURE, part 29: odds, mean, best plan -/
def spSum (f : Int → Int) : Nat → Int → Int → Int
  | 0, _, a => a
  | m + 1, e, a => spSum f m (e + 1) (a + f e)
theorem spSum_b {f : Int → Int} {lo hi : Int} : ∀ (m : Nat) (e a : Int), (∀ k, e ≤ k → k < e + m → lo ≤ f k ∧ f k ≤ hi) → a + m * lo ≤ spSum f m e a ∧ spSum f m e a ≤ a + m * hi := by
  intro m
  induction m with
  | zero => intro e a _; rw [spSum]; simp
  | succ m ih =>
    intro e a h
    have h0 := h e (by omega) (by omega)
    have h1 := ih (e + 1) (a + f e) (fun k k0 k1 => h k (by omega) (by omega))
    rw [spSum]
    rw [show ((m + 1 : Nat) : Int) * lo = m * lo + lo by rw [Int.natCast_add, Int.add_mul]; simp, show ((m + 1 : Nat) : Int) * hi = m * hi + hi by rw [Int.natCast_add, Int.add_mul]; simp]
    omega
theorem c_sum_l (d : Nat) {z : zH} (hz : zRR z) {v : Int → Int} {o : Nat} {m w c b : Int} (hR : RRows o m w c b z v) {f : Int} (hf : 0 ≤ f ∧ f < w) (hl : m * w = (lenX (o + 1) : Int)) (hs : m * w < 2147483648) (hm : m < 2147483648) : ∀ (j : Nat) (e a : Int), 0 ≤ e → e + j = v c → ∀ n, j < n → r_X7_sum (d + 2) n 4 [some (xR 23 o), some (xI (zI f)), some (xI (zI a)), some (xI (zI e))] [] (hI z) = some (zI (spSum (fun e => v (b + (e * w + f))) j e a), hI z) := by
  have h3 := hR.2.2.1
  have h4 := hR.2.2.2.1
  intro j
  induction j with
  | zero =>
    intro e a h0 h1 n hn
    obtain ⟨n, rfl⟩ := Nat.exists_eq_succ_of_ne_zero (show n ≠ 0 by omega)
    have he : zR e := by simp only [zR]; omega
    have hc : zR (v c) := by simp only [zR]; omega
    rw [l_X7_sum_4]
    simp only [hI_fs, h3]
    rw [if_neg (by rw [zI_lt he hc]; omega)]
    rfl
  | succ j ih =>
    intro e a h0 h1 n hn
    obtain ⟨n, rfl⟩ := Nat.exists_eq_succ_of_ne_zero (show n ≠ 0 by omega)
    have he : zR e := by simp only [zR]; omega
    have hc : zR (v c) := by simp only [zR]; omega
    have cn := c_rowN d hz hR (e := e) (f := f) ⟨h0, by omega⟩ hf hl hs
    rw [l_X7_sum_4]
    simp only [hI_fs, h3]
    rw [if_pos (by rw [zI_lt he hc]; omega)]
    simp only [cn, xbd_n, zI_add, zLit]
    exact ih (e + 1) _ (by omega) (by omega) n (by omega)
theorem c_sum (d : Nat) {z : zH} (hz : zRR z) {v : Int → Int} {o : Nat} {m w c b : Int} (hR : RRows o m w c b z v) {f : Int} (hf : 0 ≤ f ∧ f < w) (hl : m * w = (lenX (o + 1) : Int)) (hs : m * w < 2147483648) (hm : m < 999999) : cM (d + 3) 59 [xR 23 o, xI (zI f)] (hI z) = some (zI (spSum (fun e => v (b + (e * w + f))) (v c).toNat 0 0), hI z) := by
  have h4 := hR.2.2.2.1
  rw [e_X7_sum, show xF = 999999 + 1 from rfl, l_X7_sum_0]
  simp only [zLit]
  exact c_sum_l d hz hR hf hl hs (by omega) (v c).toNat 0 0 (by omega) (by omega) 999999 (by omega)
abbrev spW (v : Int → Int) (e : Int) : Int := v (276 + 4 * e)
abbrev spWs (v : Int → Int) : Int := spSum (spW v) (v 9).toNat 0 0
theorem c_weights (d : Nat) {z : zH} (hz : zRR z) {v : Int → Int} (hS : PScenes 11 z v) : cM (d + 3) 59 [xR 23 11, xI (zI 0)] (hI z) = some (zI (spWs v), hI z) := by
  have e := c_sum d hz hS.1 (f := 0) (by omega) (by simp only [Nat.reduceAdd, lenX_s]; rfl) (by omega) (by omega)
  have e2 : (fun e => v (276 + (e * 4 + 0))) = spW v := by
    funext e
    rw [show (276 : Int) + (e * 4 + 0) = 276 + 4 * e by omega]
  rw [e2] at e
  exact e
theorem m_weights_l (d : Nat) {z : zH} (hz : zRR z) (h9 : 0 ≤ z 101 9 ∧ z 101 9 ≤ 5) : ∀ (j : Nat) (e a : Int), 0 ≤ e → e + j = z 101 9 → ∀ n, j < n → r_X12_weights (d + 1) n 4 [some (xR 28 100), some (xI (zI a)), some (xI (zI e))] [] (hI z) = some (zI (spSum (spW (z 101)) j e a), hI z) := by
  intro j
  induction j with
  | zero =>
    intro e a h0 h1 n hn
    obtain ⟨n, rfl⟩ := Nat.exists_eq_succ_of_ne_zero (show n ≠ 0 by omega)
    rw [l_X12_weights_4]
    simp (maxSteps := 3000000) (disch := (first | exact hz _ _ | exact hv _ | exact hL | assumption | (simp (disch := decide) only [zup_ne]; exact hL) | (simp only [zR]; omega) | omega)) only [zLit, zI_div, hI_fs, hI_us, zI_add, zI_sub, zI_mul, zI_neg, zI_lt, zI_eq, zI_ite, xbd_s, zI_nat, zld, zst, zbd, zB_0, zB_1, lenX_s, zup_at, xgd, cond_true, cond_false, and_self, and_true, true_and, false_and, and_false, or_self, or_false, false_or, if_true, if_false, ite_true, ite_false, reduceIte, reduceCtorEq, Nat.reduceEqDiff, Nat.reduceAdd, Nat.reduceMul, Int.reduceNeg, Int.reduceAdd, Int.reduceSub, Int.reduceMul, Int.reduceLT, Int.reduceLE, Int.reduceEq, Int.reduceDiv, Int.reduceMod, Int.reduceToNat, Int.toNat_zero, Int.toNat_one, Nat.reduceLeDiff, Nat.reduceLT, ite_not, not_true, not_false_eq_true]
    rw [if_neg (by omega)]
    rfl
  | succ j ih =>
    intro e a h0 h1 n hn
    obtain ⟨n, rfl⟩ := Nat.exists_eq_succ_of_ne_zero (show n ≠ 0 by omega)
    have hx := ih (e + 1) (a + spW (z 101) e) (by omega) (by omega) n (by omega)
    have ms := fun d => m_scene_ d (z := z) (e := e) (f := 0) (by omega) (by omega)
    simp only [Int.add_zero] at ms
    have h9r : zR 9 := zR_s (by omega)
    have h0r : zR 0 := zR_s (by omega)
    rw [l_X12_weights_4]
    simp only [zLit, lenX_s, zI_nat h9r, zld (show (0 : Int) ≤ 9 by omega)]
    rw [if_neg (by rw [zI_lt h9r h0r]; omega), if_pos (by rw [zI_lt (zR_s (by omega)) (zR_s (by omega))]; omega)]
    simp only [ms, xbd_n, zI_add]
    exact hx
theorem m_weights (d : Nat) {z : zH} (hz : zRR z) (h9 : 0 ≤ z 101 9 ∧ z 101 9 ≤ 5) : cM (d + 2) 203 [xR 28 100] (hI z) = some (zI (spWs (z 101)), hI z) := by
  rw [e_X12_weights, show xF = 999999 + 1 from rfl, l_X12_weights_0]
  simp only [zLit]
  exact m_weights_l d hz h9 (z 101 9).toNat 0 0 (by omega) (by omega) 999999 (by omega)
theorem spWs_b {z : zH} {v : Int → Int} (hS : PScenes 11 z v) : v 9 ≤ spWs v ∧ spWs v ≤ 495 := by
  have h9 := hS.1.2.2.2.1
  have b := spSum_b (f := spW v) (lo := 1) (hi := 99) (v 9).toNat 0 0 (fun k k0 k1 => (hS.2 k k0 (by omega)).1)
  have e : ((v 9).toNat : Int) = v 9 := Int.toNat_of_nonneg h9.1
  rw [e] at b
  show v 9 ≤ spSum (spW v) (v 9).toNat 0 0 ∧ spSum (spW v) (v 9).toNat 0 0 ≤ 495
  omega
/-- one scene's share in the odds, in the mean -/
def spOne (v : Int → Int) (p en s : Int) : Int := if spTold v (spC v p s) (spT v p s) 0 = en then spW v s else 0
def spCst (v : Int → Int) (p s : Int) : Int := spW v s * spTold v (spC v p s) (spT v p s) 3
theorem c_odds_l (d : Nat) {v : Int → Int} {p en pt : Int} (hpr : zR p) (hen : zR en) {W : Int} (hW : 0 < W ∧ W < 2147483648) (hpt : pt = 0 ∨ pt = 1) (hWe : W = spWs v) : ∀ (j : Nat) (e a : Int) (z : zH), Inv z → z 101 = v → (0 ≤ p ∧ p < v 8) → 0 ≤ e → e + j = v 9 → (0 ≤ a ∧ a ≤ 99 * e) → ∀ n, j < n → xw (r_X11_odds (d + 6) n 61 [some (xR 27 0), some (xI (zI p)), some (xI (zI en)), some (xI (zI pt)), some (xI (zI a)), some (xI (zI e))] [] (hI z)) (fun r z' => r = spPart (spSum (spOne v p en) j e a) W pt ∧ Inv z' ∧ z' 101 = v) := by
  intro j
  induction j with
  | zero =>
    intro e a z h hv hp h0 h1 ha n hn
    obtain ⟨n, rfl⟩ := Nat.exists_eq_succ_of_ne_zero (show n ≠ 0 by omega)
    subst hv
    have hS : PScenes 11 z (z 101) := h.2.1.2.2.2.2.1
    have h3 : z 11 3 = z 101 9 := hS.1.2.2.1
    have h9 := hS.1.2.2.2.1
    have cw := fun d => c_weights d h.1 hS
    have cf := fun d => c_frac d (hI z) (a := a) (b := W) (p := pt) ⟨ha.1, by omega⟩ hW hpt
    rw [l_X11_odds_61]
    simp only [zLit, hI_fs, h3]
    rw [if_neg (by rw [zI_lt (zR_s (by omega)) (zR_s (by omega))]; omega)]
    rw [← hWe] at cw
    simp only [cw, xbd_n]
    simp only [cf, xbd_n]
    exact xw_ret (spPart_b ⟨ha.1, by omega⟩ hW) h.1 ⟨rfl, h, rfl⟩
  | succ j ih =>
    intro e a z h hv hp h0 h1 ha n hn
    obtain ⟨n, rfl⟩ := Nat.exists_eq_succ_of_ne_zero (show n ≠ 0 by omega)
    subst hv
    have hS : PScenes 11 z (z 101) := h.2.1.2.2.2.2.1
    have h3 : z 11 3 = z 101 9 := hS.1.2.2.1
    have h9 := hS.1.2.2.2.1
    have ws := (hS.2 e h0 (by omega)).1
    have hs : e = -1 ∨ (0 ≤ e ∧ e < z 101 9) := by omega
    have ok := fl_ok h (p := p) hs
    have tb := spTold_b (t := (spT (z 101) p e : Int)) (w := 0) h.2.1.1.2 h.2.1.2.2.1 ok.1 ok.2
    rw [l_X11_odds_61]
    simp only [zLit, hI_fs, h3]
    rw [if_pos (by rw [zI_lt (zR_s (by omega)) (zR_s (by omega))]; omega)]
    refine xw_k (c_flTold _ h hp hs) ?_
    intro r z1 hr hz1 ⟨f, inv, ct⟩
    have e1 : z1 101 = z 101 := f 101 rfl
    have ct := fun d => ct d 0 (by omega) (by omega)
    have cn := fun d => c_sceneN d hz1 (v := z 101) (PScenes_t hS (f 11 rfl) (f 12 rfl) (fun _ _ => rfl)) (e := e) (f := 0) ⟨h0, by omega⟩ (by omega)
    simp only [Int.add_zero] at cn
    have hx := fun a ha => ih (e + 1) a z1 inv e1 hp (by omega) (by omega) ha n (by omega)
    rw [spSum]
    unfold spOne
    simp only [ct, xbd_n]
    generalize spTold (z 101) (spC (z 101) p e) (spT (z 101) p e) 0 = t at *
    by_cases q : t = en
    · rw [if_pos (by rw [q]), if_pos q]
      simp only [cn, xbd_n, zI_add]
      exact hx _ ⟨by omega, by omega⟩
    · rw [if_neg (by rw [zI_eq (zR_s (by omega)) hen]; exact q), if_neg q, zI_add, Int.add_zero]
      exact hx _ ⟨by omega, by omega⟩
theorem m_odds_l (d : Nat) {v : Int → Int} {p en pt : Int} (hpr : zR p) (hen : zR en) {W : Int} (hW : 0 < W ∧ W < 2147483648) (hpt : pt = 0 ∨ pt = 1) (hWe : W = spWs v) : ∀ (j : Nat) (e a : Int) (z : zH), Inv z → z 101 = v → (0 ≤ p ∧ p < v 8) → 0 ≤ e → e + j = v 9 → (0 ≤ a ∧ a ≤ 99 * e) → ∀ n, j < n → xw (r_X12_odds (d + 6) n 50 [some (xR 28 100), some (xI (zI p)), some (xI (zI en)), some (xI (zI pt)), some (xI (zI a)), some (xI (zI e))] [] (hI z)) (fun r z' => r = spPart (spSum (spOne v p en) j e a) W pt ∧ Inv z' ∧ z' 101 = v) := by
  have h9r : zR 9 := zR_s (by omega)
  have h0r : zR 0 := zR_s (by omega)
  intro j
  induction j with
  | zero =>
    intro e a z h hv hp h0 h1 ha n hn
    obtain ⟨n, rfl⟩ := Nat.exists_eq_succ_of_ne_zero (show n ≠ 0 by omega)
    subst hv
    have hS : PScenes 11 z (z 101) := h.2.1.2.2.2.2.1
    have h9 := hS.1.2.2.2.1
    have cw := fun d => m_weights d h.1 h9
    have cf := fun d => m_part d (hI z) (a := a) (b := W) (p := pt) ⟨ha.1, by omega⟩ hW hpt
    rw [l_X12_odds_50]
    simp only [zLit, lenX_s, zI_nat h9r, zld (show (0 : Int) ≤ 9 by omega)]
    rw [if_neg (by rw [zI_lt h9r h0r]; omega), if_neg (by rw [zI_lt (zR_s (by omega)) (zR_s (by omega))]; omega)]
    rw [← hWe] at cw
    simp only [cw, xbd_n]
    simp only [cf, xbd_n]
    exact xw_ret (spPart_b ⟨ha.1, by omega⟩ hW) h.1 ⟨rfl, h, rfl⟩
  | succ j ih =>
    intro e a z h hv hp h0 h1 ha n hn
    obtain ⟨n, rfl⟩ := Nat.exists_eq_succ_of_ne_zero (show n ≠ 0 by omega)
    subst hv
    have hS : PScenes 11 z (z 101) := h.2.1.2.2.2.2.1
    have h9 := hS.1.2.2.2.1
    have ws := (hS.2 e h0 (by omega)).1
    have hs : e = -1 ∨ (0 ≤ e ∧ e < z 101 9) := by omega
    have ok := fl_ok h (p := p) hs
    have tb := spTold_b (t := (spT (z 101) p e : Int)) (w := 0) h.2.1.1.2 h.2.1.2.2.1 ok.1 ok.2
    rw [l_X12_odds_50]
    simp only [zLit, lenX_s, zI_nat h9r, zld (show (0 : Int) ≤ 9 by omega)]
    rw [if_neg (by rw [zI_lt h9r h0r]; omega), if_pos (by rw [zI_lt (zR_s (by omega)) (zR_s (by omega))]; omega)]
    refine xw_k (m_flTold _ h hp hs) ?_
    intro r z1 hr hz1 ⟨f, inv, ct⟩
    have e1 : z1 101 = z 101 := f 101 rfl
    have ct := fun d => ct d 0 (by omega) (by omega)
    have cn := fun d => m_scene_ d (z := z1) (e := e) (f := 0) (by omega) (by omega)
    simp only [Int.add_zero, e1] at cn
    have hx := fun a ha => ih (e + 1) a z1 inv e1 hp (by omega) (by omega) ha n (by omega)
    rw [spSum]
    unfold spOne
    simp only [ct, xbd_n]
    generalize spTold (z 101) (spC (z 101) p e) (spT (z 101) p e) 0 = t at *
    by_cases q : t = en
    · rw [if_pos (by rw [q]), if_pos q]
      simp only [cn, xbd_n, zI_add]
      exact hx _ ⟨by omega, by omega⟩
    · rw [if_neg (by rw [zI_eq (zR_s (by omega)) hen]; exact q), if_neg q, zI_add, zI_add, Int.add_zero]
      exact hx _ ⟨by omega, by omega⟩
theorem k_odds {z : zH} (h : Inv z) {p en pt : Int} (hp : zR p) (hen : zR en) (hpt : zR pt) : two 116 204 [xI (zI p), xI (zI en), xI (zI pt)] z := by
  have hI0 := h
  obtain ⟨hz, hW, hK, hT, hO, hSh, hF, hCt⟩ := h
  have hP : PPlans 9 z (z 101) := hW.2.2.2.1
  have hS : PScenes 11 z (z 101) := hW.2.2.2.2.1
  have hE : PEnds 7 z (z 101) := hW.2.2.1
  have r9 : z 9 3 = z 101 8 := hP.1.2.2.1
  have r11 : z 11 3 = z 101 9 := hS.1.2.2.1
  have r7 : z 7 3 = z 101 7 := hE.1.2.2.1
  have b7 : 0 ≤ z 101 7 ∧ z 101 7 ≤ 8 := hE.1.2.2.2.1
  have b8 := hP.1.2.2.2
  have b9 := hS.1.2.2.2.1
  have wb := spWs_b hS
  by_cases q : (0 ≤ p ∧ p < z 101 8) ∧ (0 ≤ en ∧ en < z 101 7) ∧ (0 ≤ pt ∧ pt ≤ 1)
  · obtain ⟨qp, qe, qt⟩ := q
    by_cases q9 : z 101 9 = 0
    · refine two_ro hI0 (-3) (by simp only [zR]; omega) ?_ ?_
      · rw [e_X11_odds, show xF = 999999 + 1 from rfl, l_X11_odds_0]
        repeat' (first | (with_reducible apply hs_f; (case h => (first | (simp (disch := (first | exact hz _ _ | exact hv _ | exact hL | assumption | (simp (disch := decide) only [zup_ne]; exact hL) | (simp only [zR]; omega) | omega)) only [zLit, zI_div, hI_fs, hI_us, zI_add, zI_sub, zI_mul, zI_neg, zI_lt, zI_eq, zI_ite, xbd_s, zI_nat, zld, zst, zbd, zB_0, zB_1, lenX_s, zup_at, xgd, cond_true, cond_false, and_self, and_true, true_and, false_and, and_false, or_self, or_false, false_or, if_true, if_false, ite_true, ite_false, reduceIte, reduceCtorEq, Nat.reduceEqDiff, Nat.reduceAdd, Nat.reduceMul, Int.reduceNeg, Int.reduceAdd, Int.reduceSub, Int.reduceMul, Int.reduceLT, Int.reduceLE, Int.reduceEq, Int.reduceDiv, Int.reduceMod, Int.reduceToNat, Int.toNat_zero, Int.toNat_one, Nat.reduceLeDiff, Nat.reduceLT, ite_not, not_true, not_false_eq_true, r9, r7, r11, q9] <;> omega) | omega))) | (with_reducible apply hs_t; (case h => (first | (simp (disch := (first | exact hz _ _ | exact hv _ | exact hL | assumption | (simp (disch := decide) only [zup_ne]; exact hL) | (simp only [zR]; omega) | omega)) only [zLit, zI_div, hI_fs, hI_us, zI_add, zI_sub, zI_mul, zI_neg, zI_lt, zI_eq, zI_ite, xbd_s, zI_nat, zld, zst, zbd, zB_0, zB_1, lenX_s, zup_at, xgd, cond_true, cond_false, and_self, and_true, true_and, false_and, and_false, or_self, or_false, false_or, if_true, if_false, ite_true, ite_false, reduceIte, reduceCtorEq, Nat.reduceEqDiff, Nat.reduceAdd, Nat.reduceMul, Int.reduceNeg, Int.reduceAdd, Int.reduceSub, Int.reduceMul, Int.reduceLT, Int.reduceLE, Int.reduceEq, Int.reduceDiv, Int.reduceMod, Int.reduceToNat, Int.toNat_zero, Int.toNat_one, Nat.reduceLeDiff, Nat.reduceLT, ite_not, not_true, not_false_eq_true, r9, r7, r11, q9] <;> omega) | omega))) | (with_reducible apply hs_b; (case h => (simp (disch := (first | exact hz _ _ | exact hv _ | exact hL | assumption | (simp (disch := decide) only [zup_ne]; exact hL) | (simp only [zR]; omega) | omega)) only [zLit, zI_div, hI_fs, hI_us, zI_add, zI_sub, zI_mul, zI_neg, zI_lt, zI_eq, zI_ite, xbd_s, zI_nat, zld, zst, zbd, zB_0, zB_1, lenX_s, zup_at, xgd, cond_true, cond_false, and_self, and_true, true_and, false_and, and_false, or_self, or_false, false_or, if_true, if_false, ite_true, ite_false, reduceIte, reduceCtorEq, Nat.reduceEqDiff, Nat.reduceAdd, Nat.reduceMul, Int.reduceNeg, Int.reduceAdd, Int.reduceSub, Int.reduceMul, Int.reduceLT, Int.reduceLE, Int.reduceEq, Int.reduceDiv, Int.reduceMod, Int.reduceToNat, Int.toNat_zero, Int.toNat_one, Nat.reduceLeDiff, Nat.reduceLT, ite_not, not_true, not_false_eq_true, r9, r7, r11, q9, c_rHas, c_within]; rfl)); try dsimp only) | (with_reducible apply hs_c <;> intro q9 <;> (try simp (disch := (first | exact hz _ _ | exact hv _ | exact hL | assumption | (simp (disch := decide) only [zup_ne]; exact hL) | (simp only [zR]; omega) | omega)) only [zLit, zI_div, hI_fs, hI_us, zI_add, zI_sub, zI_mul, zI_neg, zI_lt, zI_eq, zI_ite, xbd_s, zI_nat, zld, zst, zbd, zB_0, zB_1, lenX_s, zup_at, xgd, cond_true, cond_false, and_self, and_true, true_and, false_and, and_false, or_self, or_false, false_or, if_true, if_false, ite_true, ite_false, reduceIte, reduceCtorEq, Nat.reduceEqDiff, Nat.reduceAdd, Nat.reduceMul, Int.reduceNeg, Int.reduceAdd, Int.reduceSub, Int.reduceMul, Int.reduceLT, Int.reduceLE, Int.reduceEq, Int.reduceDiv, Int.reduceMod, Int.reduceToNat, Int.toNat_zero, Int.toNat_one, Nat.reduceLeDiff, Nat.reduceLT, ite_not, not_true, not_false_eq_true, r9, r7, r11, q9] at q9)))
        all_goals first | rfl | omega | (simp (maxSteps := 3000000) (disch := (first | exact hz _ _ | exact hv _ | exact hL | assumption | (simp (disch := decide) only [zup_ne]; exact hL) | (simp only [zR]; omega) | omega)) only [zLit, zI_div, hI_fs, hI_us, zI_add, zI_sub, zI_mul, zI_neg, zI_lt, zI_eq, zI_ite, xbd_s, zI_nat, zld, zst, zbd, zB_0, zB_1, lenX_s, zup_at, xgd, cond_true, cond_false, and_self, and_true, true_and, false_and, and_false, or_self, or_false, false_or, if_true, if_false, ite_true, ite_false, reduceIte, reduceCtorEq, Nat.reduceEqDiff, Nat.reduceAdd, Nat.reduceMul, Int.reduceNeg, Int.reduceAdd, Int.reduceSub, Int.reduceMul, Int.reduceLT, Int.reduceLE, Int.reduceEq, Int.reduceDiv, Int.reduceMod, Int.reduceToNat, Int.toNat_zero, Int.toNat_one, Nat.reduceLeDiff, Nat.reduceLT, ite_not, not_true, not_false_eq_true]; done) | (simp (maxSteps := 3000000) (disch := (first | exact hz _ _ | exact hv _ | exact hL | assumption | (simp (disch := decide) only [zup_ne]; exact hL) | (simp only [zR]; omega) | omega)) only [zLit, zI_div, hI_fs, hI_us, zI_add, zI_sub, zI_mul, zI_neg, zI_lt, zI_eq, zI_ite, xbd_s, zI_nat, zld, zst, zbd, zB_0, zB_1, lenX_s, zup_at, xgd, cond_true, cond_false, and_self, and_true, true_and, false_and, and_false, or_self, or_false, false_or, if_true, if_false, ite_true, ite_false, reduceIte, reduceCtorEq, Nat.reduceEqDiff, Nat.reduceAdd, Nat.reduceMul, Int.reduceNeg, Int.reduceAdd, Int.reduceSub, Int.reduceMul, Int.reduceLT, Int.reduceLE, Int.reduceEq, Int.reduceDiv, Int.reduceMod, Int.reduceToNat, Int.toNat_zero, Int.toNat_one, Nat.reduceLeDiff, Nat.reduceLT, ite_not, not_true, not_false_eq_true]; rfl)
      · rw [e_X12_odds, show xF = 999999 + 1 from rfl, l_X12_odds_0]
        repeat' (first | (with_reducible apply hs_f; (case h => (first | (simp (disch := (first | exact hz _ _ | exact hv _ | exact hL | assumption | (simp (disch := decide) only [zup_ne]; exact hL) | (simp only [zR]; omega) | omega)) only [zLit, zI_div, hI_fs, hI_us, zI_add, zI_sub, zI_mul, zI_neg, zI_lt, zI_eq, zI_ite, xbd_s, zI_nat, zld, zst, zbd, zB_0, zB_1, lenX_s, zup_at, xgd, cond_true, cond_false, and_self, and_true, true_and, false_and, and_false, or_self, or_false, false_or, if_true, if_false, ite_true, ite_false, reduceIte, reduceCtorEq, Nat.reduceEqDiff, Nat.reduceAdd, Nat.reduceMul, Int.reduceNeg, Int.reduceAdd, Int.reduceSub, Int.reduceMul, Int.reduceLT, Int.reduceLE, Int.reduceEq, Int.reduceDiv, Int.reduceMod, Int.reduceToNat, Int.toNat_zero, Int.toNat_one, Nat.reduceLeDiff, Nat.reduceLT, ite_not, not_true, not_false_eq_true, q9] <;> omega) | omega))) | (with_reducible apply hs_t; (case h => (first | (simp (disch := (first | exact hz _ _ | exact hv _ | exact hL | assumption | (simp (disch := decide) only [zup_ne]; exact hL) | (simp only [zR]; omega) | omega)) only [zLit, zI_div, hI_fs, hI_us, zI_add, zI_sub, zI_mul, zI_neg, zI_lt, zI_eq, zI_ite, xbd_s, zI_nat, zld, zst, zbd, zB_0, zB_1, lenX_s, zup_at, xgd, cond_true, cond_false, and_self, and_true, true_and, false_and, and_false, or_self, or_false, false_or, if_true, if_false, ite_true, ite_false, reduceIte, reduceCtorEq, Nat.reduceEqDiff, Nat.reduceAdd, Nat.reduceMul, Int.reduceNeg, Int.reduceAdd, Int.reduceSub, Int.reduceMul, Int.reduceLT, Int.reduceLE, Int.reduceEq, Int.reduceDiv, Int.reduceMod, Int.reduceToNat, Int.toNat_zero, Int.toNat_one, Nat.reduceLeDiff, Nat.reduceLT, ite_not, not_true, not_false_eq_true, q9] <;> omega) | omega))) | (with_reducible apply hs_b; (case h => (simp (disch := (first | exact hz _ _ | exact hv _ | exact hL | assumption | (simp (disch := decide) only [zup_ne]; exact hL) | (simp only [zR]; omega) | omega)) only [zLit, zI_div, hI_fs, hI_us, zI_add, zI_sub, zI_mul, zI_neg, zI_lt, zI_eq, zI_ite, xbd_s, zI_nat, zld, zst, zbd, zB_0, zB_1, lenX_s, zup_at, xgd, cond_true, cond_false, and_self, and_true, true_and, false_and, and_false, or_self, or_false, false_or, if_true, if_false, ite_true, ite_false, reduceIte, reduceCtorEq, Nat.reduceEqDiff, Nat.reduceAdd, Nat.reduceMul, Int.reduceNeg, Int.reduceAdd, Int.reduceSub, Int.reduceMul, Int.reduceLT, Int.reduceLE, Int.reduceEq, Int.reduceDiv, Int.reduceMod, Int.reduceToNat, Int.toNat_zero, Int.toNat_one, Nat.reduceLeDiff, Nat.reduceLT, ite_not, not_true, not_false_eq_true, q9, m_is, m_within]; rfl)); try dsimp only) | (with_reducible apply hs_c <;> intro q9 <;> (try simp (disch := (first | exact hz _ _ | exact hv _ | exact hL | assumption | (simp (disch := decide) only [zup_ne]; exact hL) | (simp only [zR]; omega) | omega)) only [zLit, zI_div, hI_fs, hI_us, zI_add, zI_sub, zI_mul, zI_neg, zI_lt, zI_eq, zI_ite, xbd_s, zI_nat, zld, zst, zbd, zB_0, zB_1, lenX_s, zup_at, xgd, cond_true, cond_false, and_self, and_true, true_and, false_and, and_false, or_self, or_false, false_or, if_true, if_false, ite_true, ite_false, reduceIte, reduceCtorEq, Nat.reduceEqDiff, Nat.reduceAdd, Nat.reduceMul, Int.reduceNeg, Int.reduceAdd, Int.reduceSub, Int.reduceMul, Int.reduceLT, Int.reduceLE, Int.reduceEq, Int.reduceDiv, Int.reduceMod, Int.reduceToNat, Int.toNat_zero, Int.toNat_one, Nat.reduceLeDiff, Nat.reduceLT, ite_not, not_true, not_false_eq_true, q9] at q9)))
        all_goals first | rfl | omega | (simp (maxSteps := 3000000) (disch := (first | exact hz _ _ | exact hv _ | exact hL | assumption | (simp (disch := decide) only [zup_ne]; exact hL) | (simp only [zR]; omega) | omega)) only [zLit, zI_div, hI_fs, hI_us, zI_add, zI_sub, zI_mul, zI_neg, zI_lt, zI_eq, zI_ite, xbd_s, zI_nat, zld, zst, zbd, zB_0, zB_1, lenX_s, zup_at, xgd, cond_true, cond_false, and_self, and_true, true_and, false_and, and_false, or_self, or_false, false_or, if_true, if_false, ite_true, ite_false, reduceIte, reduceCtorEq, Nat.reduceEqDiff, Nat.reduceAdd, Nat.reduceMul, Int.reduceNeg, Int.reduceAdd, Int.reduceSub, Int.reduceMul, Int.reduceLT, Int.reduceLE, Int.reduceEq, Int.reduceDiv, Int.reduceMod, Int.reduceToNat, Int.toNat_zero, Int.toNat_one, Nat.reduceLeDiff, Nat.reduceLT, ite_not, not_true, not_false_eq_true]; done) | (simp (maxSteps := 3000000) (disch := (first | exact hz _ _ | exact hv _ | exact hL | assumption | (simp (disch := decide) only [zup_ne]; exact hL) | (simp only [zR]; omega) | omega)) only [zLit, zI_div, hI_fs, hI_us, zI_add, zI_sub, zI_mul, zI_neg, zI_lt, zI_eq, zI_ite, xbd_s, zI_nat, zld, zst, zbd, zB_0, zB_1, lenX_s, zup_at, xgd, cond_true, cond_false, and_self, and_true, true_and, false_and, and_false, or_self, or_false, false_or, if_true, if_false, ite_true, ite_false, reduceIte, reduceCtorEq, Nat.reduceEqDiff, Nat.reduceAdd, Nat.reduceMul, Int.reduceNeg, Int.reduceAdd, Int.reduceSub, Int.reduceMul, Int.reduceLT, Int.reduceLE, Int.reduceEq, Int.reduceDiv, Int.reduceMod, Int.reduceToNat, Int.toNat_zero, Int.toNat_one, Nat.reduceLeDiff, Nat.reduceLT, ite_not, not_true, not_false_eq_true]; rfl)
    · have E := fun z1 inv e1 => c_odds_l 53 (v := z 101) hp hen (W := spWs (z 101)) ⟨by omega, by omega⟩ (show pt = 0 ∨ pt = 1 by omega) rfl (z 101 9).toNat 0 0 z1 inv e1 qp (by omega) (by omega) (by omega) 999999 (by omega)
      have E2 := fun z1 inv e1 => m_odds_l 53 (v := z 101) hp hen (W := spWs (z 101)) ⟨by omega, by omega⟩ (show pt = 0 ∨ pt = 1 by omega) rfl (z 101 9).toNat 0 0 z1 inv e1 qp (by omega) (by omega) (by omega) 999999 (by omega)
      refine xw_m (P := fun r z1 => r = spPart (spSum (spOne (z 101) p en) (z 101 9).toNat 0 0) (spWs (z 101)) pt ∧ Inv z1 ∧ z1 101 = z 101) ?_ ?_
      · rw [e_X11_odds, show xF = 999999 + 1 from rfl, l_X11_odds_0]
        repeat' (first | (with_reducible apply xw_f; (case h => (first | (simp (disch := (first | exact hz _ _ | exact hv _ | exact hL | assumption | (simp (disch := decide) only [zup_ne]; exact hL) | (simp only [zR]; omega) | omega)) only [zLit, zI_div, hI_fs, hI_us, zI_add, zI_sub, zI_mul, zI_neg, zI_lt, zI_eq, zI_ite, xbd_s, zI_nat, zld, zst, zbd, zB_0, zB_1, lenX_s, zup_at, xgd, cond_true, cond_false, and_self, and_true, true_and, false_and, and_false, or_self, or_false, false_or, if_true, if_false, ite_true, ite_false, reduceIte, reduceCtorEq, Nat.reduceEqDiff, Nat.reduceAdd, Nat.reduceMul, Int.reduceNeg, Int.reduceAdd, Int.reduceSub, Int.reduceMul, Int.reduceLT, Int.reduceLE, Int.reduceEq, Int.reduceDiv, Int.reduceMod, Int.reduceToNat, Int.toNat_zero, Int.toNat_one, Nat.reduceLeDiff, Nat.reduceLT, ite_not, not_true, not_false_eq_true, r9, r7, r11] <;> omega) | omega))) | (with_reducible apply xw_t; (case h => (first | (simp (disch := (first | exact hz _ _ | exact hv _ | exact hL | assumption | (simp (disch := decide) only [zup_ne]; exact hL) | (simp only [zR]; omega) | omega)) only [zLit, zI_div, hI_fs, hI_us, zI_add, zI_sub, zI_mul, zI_neg, zI_lt, zI_eq, zI_ite, xbd_s, zI_nat, zld, zst, zbd, zB_0, zB_1, lenX_s, zup_at, xgd, cond_true, cond_false, and_self, and_true, true_and, false_and, and_false, or_self, or_false, false_or, if_true, if_false, ite_true, ite_false, reduceIte, reduceCtorEq, Nat.reduceEqDiff, Nat.reduceAdd, Nat.reduceMul, Int.reduceNeg, Int.reduceAdd, Int.reduceSub, Int.reduceMul, Int.reduceLT, Int.reduceLE, Int.reduceEq, Int.reduceDiv, Int.reduceMod, Int.reduceToNat, Int.toNat_zero, Int.toNat_one, Nat.reduceLeDiff, Nat.reduceLT, ite_not, not_true, not_false_eq_true, r9, r7, r11] <;> omega) | omega))) | (with_reducible apply xw_b; (case h => (simp (disch := (first | exact hz _ _ | exact hv _ | exact hL | assumption | (simp (disch := decide) only [zup_ne]; exact hL) | (simp only [zR]; omega) | omega)) only [zLit, zI_div, hI_fs, hI_us, zI_add, zI_sub, zI_mul, zI_neg, zI_lt, zI_eq, zI_ite, xbd_s, zI_nat, zld, zst, zbd, zB_0, zB_1, lenX_s, zup_at, xgd, cond_true, cond_false, and_self, and_true, true_and, false_and, and_false, or_self, or_false, false_or, if_true, if_false, ite_true, ite_false, reduceIte, reduceCtorEq, Nat.reduceEqDiff, Nat.reduceAdd, Nat.reduceMul, Int.reduceNeg, Int.reduceAdd, Int.reduceSub, Int.reduceMul, Int.reduceLT, Int.reduceLE, Int.reduceEq, Int.reduceDiv, Int.reduceMod, Int.reduceToNat, Int.toNat_zero, Int.toNat_one, Nat.reduceLeDiff, Nat.reduceLT, ite_not, not_true, not_false_eq_true, r9, r7, r11, c_rHas, c_within]; rfl)); try dsimp only) | (with_reducible apply xw_c <;> intro q9 <;> (try simp (disch := (first | exact hz _ _ | exact hv _ | exact hL | assumption | (simp (disch := decide) only [zup_ne]; exact hL) | (simp only [zR]; omega) | omega)) only [zLit, zI_div, hI_fs, hI_us, zI_add, zI_sub, zI_mul, zI_neg, zI_lt, zI_eq, zI_ite, xbd_s, zI_nat, zld, zst, zbd, zB_0, zB_1, lenX_s, zup_at, xgd, cond_true, cond_false, and_self, and_true, true_and, false_and, and_false, or_self, or_false, false_or, if_true, if_false, ite_true, ite_false, reduceIte, reduceCtorEq, Nat.reduceEqDiff, Nat.reduceAdd, Nat.reduceMul, Int.reduceNeg, Int.reduceAdd, Int.reduceSub, Int.reduceMul, Int.reduceLT, Int.reduceLE, Int.reduceEq, Int.reduceDiv, Int.reduceMod, Int.reduceToNat, Int.toNat_zero, Int.toNat_one, Nat.reduceLeDiff, Nat.reduceLT, ite_not, not_true, not_false_eq_true, r9, r7, r11] at q9)))
        all_goals simp only [zLit]
        all_goals exact E z hI0 rfl
      · intro r z1 hr hz1 ⟨e, inv, e1⟩
        have b71 : 0 ≤ z1 101 7 ∧ z1 101 7 ≤ 8 := by rw [e1]; exact b7
        have b81 : 0 ≤ z1 101 8 ∧ z1 101 8 ≤ 4 := by rw [e1]; exact b8
        have b91 : 0 ≤ z1 101 9 ∧ z1 101 9 ≤ 5 := by rw [e1]; exact b9
        have qp1 : 0 ≤ p ∧ p < z1 101 8 := by rw [e1]; exact qp
        have qe1 : 0 ≤ en ∧ en < z1 101 7 := by rw [e1]; exact qe
        have q91 : ¬ z1 101 9 = 0 := by rw [e1]; exact q9
        have hz := hz1
        rw [e_X12_odds, show xF = 999999 + 1 from rfl, l_X12_odds_0]
        refine xw_m (P := fun r z2 => r = spPart (spSum (spOne (z 101) p en) (z 101 9).toNat 0 0) (spWs (z 101)) pt ∧ Inv z2 ∧ z2 101 = z 101) ?_ ?_
        · repeat' (first | (with_reducible apply xw_f; (case h => (first | (simp (disch := (first | exact hz _ _ | exact hv _ | exact hL | assumption | (simp (disch := decide) only [zup_ne]; exact hL) | (simp only [zR]; omega) | omega)) only [zLit, zI_div, hI_fs, hI_us, zI_add, zI_sub, zI_mul, zI_neg, zI_lt, zI_eq, zI_ite, xbd_s, zI_nat, zld, zst, zbd, zB_0, zB_1, lenX_s, zup_at, xgd, cond_true, cond_false, and_self, and_true, true_and, false_and, and_false, or_self, or_false, false_or, if_true, if_false, ite_true, ite_false, reduceIte, reduceCtorEq, Nat.reduceEqDiff, Nat.reduceAdd, Nat.reduceMul, Int.reduceNeg, Int.reduceAdd, Int.reduceSub, Int.reduceMul, Int.reduceLT, Int.reduceLE, Int.reduceEq, Int.reduceDiv, Int.reduceMod, Int.reduceToNat, Int.toNat_zero, Int.toNat_one, Nat.reduceLeDiff, Nat.reduceLT, ite_not, not_true, not_false_eq_true] <;> omega) | omega))) | (with_reducible apply xw_t; (case h => (first | (simp (disch := (first | exact hz _ _ | exact hv _ | exact hL | assumption | (simp (disch := decide) only [zup_ne]; exact hL) | (simp only [zR]; omega) | omega)) only [zLit, zI_div, hI_fs, hI_us, zI_add, zI_sub, zI_mul, zI_neg, zI_lt, zI_eq, zI_ite, xbd_s, zI_nat, zld, zst, zbd, zB_0, zB_1, lenX_s, zup_at, xgd, cond_true, cond_false, and_self, and_true, true_and, false_and, and_false, or_self, or_false, false_or, if_true, if_false, ite_true, ite_false, reduceIte, reduceCtorEq, Nat.reduceEqDiff, Nat.reduceAdd, Nat.reduceMul, Int.reduceNeg, Int.reduceAdd, Int.reduceSub, Int.reduceMul, Int.reduceLT, Int.reduceLE, Int.reduceEq, Int.reduceDiv, Int.reduceMod, Int.reduceToNat, Int.toNat_zero, Int.toNat_one, Nat.reduceLeDiff, Nat.reduceLT, ite_not, not_true, not_false_eq_true] <;> omega) | omega))) | (with_reducible apply xw_b; (case h => (simp (disch := (first | exact hz _ _ | exact hv _ | exact hL | assumption | (simp (disch := decide) only [zup_ne]; exact hL) | (simp only [zR]; omega) | omega)) only [zLit, zI_div, hI_fs, hI_us, zI_add, zI_sub, zI_mul, zI_neg, zI_lt, zI_eq, zI_ite, xbd_s, zI_nat, zld, zst, zbd, zB_0, zB_1, lenX_s, zup_at, xgd, cond_true, cond_false, and_self, and_true, true_and, false_and, and_false, or_self, or_false, false_or, if_true, if_false, ite_true, ite_false, reduceIte, reduceCtorEq, Nat.reduceEqDiff, Nat.reduceAdd, Nat.reduceMul, Int.reduceNeg, Int.reduceAdd, Int.reduceSub, Int.reduceMul, Int.reduceLT, Int.reduceLE, Int.reduceEq, Int.reduceDiv, Int.reduceMod, Int.reduceToNat, Int.toNat_zero, Int.toNat_one, Nat.reduceLeDiff, Nat.reduceLT, ite_not, not_true, not_false_eq_true, m_is, m_within]; rfl)); try dsimp only) | (with_reducible apply xw_c <;> intro q9 <;> (try simp (disch := (first | exact hz _ _ | exact hv _ | exact hL | assumption | (simp (disch := decide) only [zup_ne]; exact hL) | (simp only [zR]; omega) | omega)) only [zLit, zI_div, hI_fs, hI_us, zI_add, zI_sub, zI_mul, zI_neg, zI_lt, zI_eq, zI_ite, xbd_s, zI_nat, zld, zst, zbd, zB_0, zB_1, lenX_s, zup_at, xgd, cond_true, cond_false, and_self, and_true, true_and, false_and, and_false, or_self, or_false, false_or, if_true, if_false, ite_true, ite_false, reduceIte, reduceCtorEq, Nat.reduceEqDiff, Nat.reduceAdd, Nat.reduceMul, Int.reduceNeg, Int.reduceAdd, Int.reduceSub, Int.reduceMul, Int.reduceLT, Int.reduceLE, Int.reduceEq, Int.reduceDiv, Int.reduceMod, Int.reduceToNat, Int.toNat_zero, Int.toNat_one, Nat.reduceLeDiff, Nat.reduceLT, ite_not, not_true, not_false_eq_true] at q9)))
          all_goals simp only [zLit]
          all_goals exact E2 z1 inv e1
        · intro r2 z2 _ _ ⟨e2, inv2, _⟩
          exact ⟨by rw [e2, e], inv2⟩
  · refine two_ro hI0 (-1) (by simp only [zR]; omega) ?_ ?_
    · rw [e_X11_odds, show xF = 999999 + 1 from rfl, l_X11_odds_0]
      repeat' (first | (with_reducible apply hs_f; (case h => (first | (simp (disch := (first | exact hz _ _ | exact hv _ | exact hL | assumption | (simp (disch := decide) only [zup_ne]; exact hL) | (simp only [zR]; omega) | omega)) only [zLit, zI_div, hI_fs, hI_us, zI_add, zI_sub, zI_mul, zI_neg, zI_lt, zI_eq, zI_ite, xbd_s, zI_nat, zld, zst, zbd, zB_0, zB_1, lenX_s, zup_at, xgd, cond_true, cond_false, and_self, and_true, true_and, false_and, and_false, or_self, or_false, false_or, if_true, if_false, ite_true, ite_false, reduceIte, reduceCtorEq, Nat.reduceEqDiff, Nat.reduceAdd, Nat.reduceMul, Int.reduceNeg, Int.reduceAdd, Int.reduceSub, Int.reduceMul, Int.reduceLT, Int.reduceLE, Int.reduceEq, Int.reduceDiv, Int.reduceMod, Int.reduceToNat, Int.toNat_zero, Int.toNat_one, Nat.reduceLeDiff, Nat.reduceLT, ite_not, not_true, not_false_eq_true, r9, r7] <;> omega) | omega))) | (with_reducible apply hs_t; (case h => (first | (simp (disch := (first | exact hz _ _ | exact hv _ | exact hL | assumption | (simp (disch := decide) only [zup_ne]; exact hL) | (simp only [zR]; omega) | omega)) only [zLit, zI_div, hI_fs, hI_us, zI_add, zI_sub, zI_mul, zI_neg, zI_lt, zI_eq, zI_ite, xbd_s, zI_nat, zld, zst, zbd, zB_0, zB_1, lenX_s, zup_at, xgd, cond_true, cond_false, and_self, and_true, true_and, false_and, and_false, or_self, or_false, false_or, if_true, if_false, ite_true, ite_false, reduceIte, reduceCtorEq, Nat.reduceEqDiff, Nat.reduceAdd, Nat.reduceMul, Int.reduceNeg, Int.reduceAdd, Int.reduceSub, Int.reduceMul, Int.reduceLT, Int.reduceLE, Int.reduceEq, Int.reduceDiv, Int.reduceMod, Int.reduceToNat, Int.toNat_zero, Int.toNat_one, Nat.reduceLeDiff, Nat.reduceLT, ite_not, not_true, not_false_eq_true, r9, r7] <;> omega) | omega))) | (with_reducible apply hs_b; (case h => (simp (disch := (first | exact hz _ _ | exact hv _ | exact hL | assumption | (simp (disch := decide) only [zup_ne]; exact hL) | (simp only [zR]; omega) | omega)) only [zLit, zI_div, hI_fs, hI_us, zI_add, zI_sub, zI_mul, zI_neg, zI_lt, zI_eq, zI_ite, xbd_s, zI_nat, zld, zst, zbd, zB_0, zB_1, lenX_s, zup_at, xgd, cond_true, cond_false, and_self, and_true, true_and, false_and, and_false, or_self, or_false, false_or, if_true, if_false, ite_true, ite_false, reduceIte, reduceCtorEq, Nat.reduceEqDiff, Nat.reduceAdd, Nat.reduceMul, Int.reduceNeg, Int.reduceAdd, Int.reduceSub, Int.reduceMul, Int.reduceLT, Int.reduceLE, Int.reduceEq, Int.reduceDiv, Int.reduceMod, Int.reduceToNat, Int.toNat_zero, Int.toNat_one, Nat.reduceLeDiff, Nat.reduceLT, ite_not, not_true, not_false_eq_true, r9, r7, c_rHas, c_within]; rfl)); try dsimp only) | (with_reducible apply hs_c <;> intro q9 <;> (try simp (disch := (first | exact hz _ _ | exact hv _ | exact hL | assumption | (simp (disch := decide) only [zup_ne]; exact hL) | (simp only [zR]; omega) | omega)) only [zLit, zI_div, hI_fs, hI_us, zI_add, zI_sub, zI_mul, zI_neg, zI_lt, zI_eq, zI_ite, xbd_s, zI_nat, zld, zst, zbd, zB_0, zB_1, lenX_s, zup_at, xgd, cond_true, cond_false, and_self, and_true, true_and, false_and, and_false, or_self, or_false, false_or, if_true, if_false, ite_true, ite_false, reduceIte, reduceCtorEq, Nat.reduceEqDiff, Nat.reduceAdd, Nat.reduceMul, Int.reduceNeg, Int.reduceAdd, Int.reduceSub, Int.reduceMul, Int.reduceLT, Int.reduceLE, Int.reduceEq, Int.reduceDiv, Int.reduceMod, Int.reduceToNat, Int.toNat_zero, Int.toNat_one, Nat.reduceLeDiff, Nat.reduceLT, ite_not, not_true, not_false_eq_true, r9, r7] at q9)))
      all_goals first | rfl | omega | (simp (maxSteps := 3000000) (disch := (first | exact hz _ _ | exact hv _ | exact hL | assumption | (simp (disch := decide) only [zup_ne]; exact hL) | (simp only [zR]; omega) | omega)) only [zLit, zI_div, hI_fs, hI_us, zI_add, zI_sub, zI_mul, zI_neg, zI_lt, zI_eq, zI_ite, xbd_s, zI_nat, zld, zst, zbd, zB_0, zB_1, lenX_s, zup_at, xgd, cond_true, cond_false, and_self, and_true, true_and, false_and, and_false, or_self, or_false, false_or, if_true, if_false, ite_true, ite_false, reduceIte, reduceCtorEq, Nat.reduceEqDiff, Nat.reduceAdd, Nat.reduceMul, Int.reduceNeg, Int.reduceAdd, Int.reduceSub, Int.reduceMul, Int.reduceLT, Int.reduceLE, Int.reduceEq, Int.reduceDiv, Int.reduceMod, Int.reduceToNat, Int.toNat_zero, Int.toNat_one, Nat.reduceLeDiff, Nat.reduceLT, ite_not, not_true, not_false_eq_true]; done) | (simp (maxSteps := 3000000) (disch := (first | exact hz _ _ | exact hv _ | exact hL | assumption | (simp (disch := decide) only [zup_ne]; exact hL) | (simp only [zR]; omega) | omega)) only [zLit, zI_div, hI_fs, hI_us, zI_add, zI_sub, zI_mul, zI_neg, zI_lt, zI_eq, zI_ite, xbd_s, zI_nat, zld, zst, zbd, zB_0, zB_1, lenX_s, zup_at, xgd, cond_true, cond_false, and_self, and_true, true_and, false_and, and_false, or_self, or_false, false_or, if_true, if_false, ite_true, ite_false, reduceIte, reduceCtorEq, Nat.reduceEqDiff, Nat.reduceAdd, Nat.reduceMul, Int.reduceNeg, Int.reduceAdd, Int.reduceSub, Int.reduceMul, Int.reduceLT, Int.reduceLE, Int.reduceEq, Int.reduceDiv, Int.reduceMod, Int.reduceToNat, Int.toNat_zero, Int.toNat_one, Nat.reduceLeDiff, Nat.reduceLT, ite_not, not_true, not_false_eq_true]; rfl)
    · rw [e_X12_odds, show xF = 999999 + 1 from rfl, l_X12_odds_0]
      repeat' (first | (with_reducible apply hs_f; (case h => (first | (simp (disch := (first | exact hz _ _ | exact hv _ | exact hL | assumption | (simp (disch := decide) only [zup_ne]; exact hL) | (simp only [zR]; omega) | omega)) only [zLit, zI_div, hI_fs, hI_us, zI_add, zI_sub, zI_mul, zI_neg, zI_lt, zI_eq, zI_ite, xbd_s, zI_nat, zld, zst, zbd, zB_0, zB_1, lenX_s, zup_at, xgd, cond_true, cond_false, and_self, and_true, true_and, false_and, and_false, or_self, or_false, false_or, if_true, if_false, ite_true, ite_false, reduceIte, reduceCtorEq, Nat.reduceEqDiff, Nat.reduceAdd, Nat.reduceMul, Int.reduceNeg, Int.reduceAdd, Int.reduceSub, Int.reduceMul, Int.reduceLT, Int.reduceLE, Int.reduceEq, Int.reduceDiv, Int.reduceMod, Int.reduceToNat, Int.toNat_zero, Int.toNat_one, Nat.reduceLeDiff, Nat.reduceLT, ite_not, not_true, not_false_eq_true] <;> omega) | omega))) | (with_reducible apply hs_t; (case h => (first | (simp (disch := (first | exact hz _ _ | exact hv _ | exact hL | assumption | (simp (disch := decide) only [zup_ne]; exact hL) | (simp only [zR]; omega) | omega)) only [zLit, zI_div, hI_fs, hI_us, zI_add, zI_sub, zI_mul, zI_neg, zI_lt, zI_eq, zI_ite, xbd_s, zI_nat, zld, zst, zbd, zB_0, zB_1, lenX_s, zup_at, xgd, cond_true, cond_false, and_self, and_true, true_and, false_and, and_false, or_self, or_false, false_or, if_true, if_false, ite_true, ite_false, reduceIte, reduceCtorEq, Nat.reduceEqDiff, Nat.reduceAdd, Nat.reduceMul, Int.reduceNeg, Int.reduceAdd, Int.reduceSub, Int.reduceMul, Int.reduceLT, Int.reduceLE, Int.reduceEq, Int.reduceDiv, Int.reduceMod, Int.reduceToNat, Int.toNat_zero, Int.toNat_one, Nat.reduceLeDiff, Nat.reduceLT, ite_not, not_true, not_false_eq_true] <;> omega) | omega))) | (with_reducible apply hs_b; (case h => (simp (disch := (first | exact hz _ _ | exact hv _ | exact hL | assumption | (simp (disch := decide) only [zup_ne]; exact hL) | (simp only [zR]; omega) | omega)) only [zLit, zI_div, hI_fs, hI_us, zI_add, zI_sub, zI_mul, zI_neg, zI_lt, zI_eq, zI_ite, xbd_s, zI_nat, zld, zst, zbd, zB_0, zB_1, lenX_s, zup_at, xgd, cond_true, cond_false, and_self, and_true, true_and, false_and, and_false, or_self, or_false, false_or, if_true, if_false, ite_true, ite_false, reduceIte, reduceCtorEq, Nat.reduceEqDiff, Nat.reduceAdd, Nat.reduceMul, Int.reduceNeg, Int.reduceAdd, Int.reduceSub, Int.reduceMul, Int.reduceLT, Int.reduceLE, Int.reduceEq, Int.reduceDiv, Int.reduceMod, Int.reduceToNat, Int.toNat_zero, Int.toNat_one, Nat.reduceLeDiff, Nat.reduceLT, ite_not, not_true, not_false_eq_true, m_is, m_within]; rfl)); try dsimp only) | (with_reducible apply hs_c <;> intro q9 <;> (try simp (disch := (first | exact hz _ _ | exact hv _ | exact hL | assumption | (simp (disch := decide) only [zup_ne]; exact hL) | (simp only [zR]; omega) | omega)) only [zLit, zI_div, hI_fs, hI_us, zI_add, zI_sub, zI_mul, zI_neg, zI_lt, zI_eq, zI_ite, xbd_s, zI_nat, zld, zst, zbd, zB_0, zB_1, lenX_s, zup_at, xgd, cond_true, cond_false, and_self, and_true, true_and, false_and, and_false, or_self, or_false, false_or, if_true, if_false, ite_true, ite_false, reduceIte, reduceCtorEq, Nat.reduceEqDiff, Nat.reduceAdd, Nat.reduceMul, Int.reduceNeg, Int.reduceAdd, Int.reduceSub, Int.reduceMul, Int.reduceLT, Int.reduceLE, Int.reduceEq, Int.reduceDiv, Int.reduceMod, Int.reduceToNat, Int.toNat_zero, Int.toNat_one, Nat.reduceLeDiff, Nat.reduceLT, ite_not, not_true, not_false_eq_true] at q9)))
      all_goals first | rfl | omega | (simp (maxSteps := 3000000) (disch := (first | exact hz _ _ | exact hv _ | exact hL | assumption | (simp (disch := decide) only [zup_ne]; exact hL) | (simp only [zR]; omega) | omega)) only [zLit, zI_div, hI_fs, hI_us, zI_add, zI_sub, zI_mul, zI_neg, zI_lt, zI_eq, zI_ite, xbd_s, zI_nat, zld, zst, zbd, zB_0, zB_1, lenX_s, zup_at, xgd, cond_true, cond_false, and_self, and_true, true_and, false_and, and_false, or_self, or_false, false_or, if_true, if_false, ite_true, ite_false, reduceIte, reduceCtorEq, Nat.reduceEqDiff, Nat.reduceAdd, Nat.reduceMul, Int.reduceNeg, Int.reduceAdd, Int.reduceSub, Int.reduceMul, Int.reduceLT, Int.reduceLE, Int.reduceEq, Int.reduceDiv, Int.reduceMod, Int.reduceToNat, Int.toNat_zero, Int.toNat_one, Nat.reduceLeDiff, Nat.reduceLT, ite_not, not_true, not_false_eq_true]; done) | (simp (maxSteps := 3000000) (disch := (first | exact hz _ _ | exact hv _ | exact hL | assumption | (simp (disch := decide) only [zup_ne]; exact hL) | (simp only [zR]; omega) | omega)) only [zLit, zI_div, hI_fs, hI_us, zI_add, zI_sub, zI_mul, zI_neg, zI_lt, zI_eq, zI_ite, xbd_s, zI_nat, zld, zst, zbd, zB_0, zB_1, lenX_s, zup_at, xgd, cond_true, cond_false, and_self, and_true, true_and, false_and, and_false, or_self, or_false, false_or, if_true, if_false, ite_true, ite_false, reduceIte, reduceCtorEq, Nat.reduceEqDiff, Nat.reduceAdd, Nat.reduceMul, Int.reduceNeg, Int.reduceAdd, Int.reduceSub, Int.reduceMul, Int.reduceLT, Int.reduceLE, Int.reduceEq, Int.reduceDiv, Int.reduceMod, Int.reduceToNat, Int.toNat_zero, Int.toNat_one, Nat.reduceLeDiff, Nat.reduceLT, ite_not, not_true, not_false_eq_true]; rfl)
/-! the mean -/
theorem c_costs_l (d : Nat) {v : Int → Int} {p : Int} (hpr : zR p) : ∀ (j : Nat) (e a : Int) (z : zH), Inv z → z 101 = v → (0 ≤ p ∧ p < v 8) → 0 ≤ e → e + j = v 9 → (-1000 * e ≤ a ∧ a ≤ 110000 * e) → ∀ n, j < n → xw (r_X11_costsInAll (d + 6) n 4 [some (xR 27 0), some (xI (zI p)), some (xI (zI a)), some (xI (zI e))] [] (hI z)) (fun r z' => r = spSum (spCst v p) j e a ∧ Inv z' ∧ z' 101 = v) := by
  intro j
  induction j with
  | zero =>
    intro e a z h hv hp h0 h1 ha n hn
    obtain ⟨n, rfl⟩ := Nat.exists_eq_succ_of_ne_zero (show n ≠ 0 by omega)
    subst hv
    have hS : PScenes 11 z (z 101) := h.2.1.2.2.2.2.1
    have h3 : z 11 3 = z 101 9 := hS.1.2.2.1
    have h9 := hS.1.2.2.2.1
    rw [l_X11_costsInAll_4]
    simp only [zLit, hI_fs, h3]
    rw [if_neg (by rw [zI_lt (zR_s (by omega)) (zR_s (by omega))]; omega)]
    exact xw_ret (zR_s (by omega)) h.1 ⟨rfl, h, rfl⟩
  | succ j ih =>
    intro e a z h hv hp h0 h1 ha n hn
    obtain ⟨n, rfl⟩ := Nat.exists_eq_succ_of_ne_zero (show n ≠ 0 by omega)
    subst hv
    have hS : PScenes 11 z (z 101) := h.2.1.2.2.2.2.1
    have h3 : z 11 3 = z 101 9 := hS.1.2.2.1
    have h9 := hS.1.2.2.2.1
    have ws := (hS.2 e h0 (by omega)).1
    have hs : e = -1 ∨ (0 ≤ e ∧ e < z 101 9) := by omega
    have ok := fl_ok h (p := p) hs
    have tb := spTold_b (t := (spT (z 101) p e : Int)) (w := 3) h.2.1.1.2 h.2.1.2.2.1 ok.1 ok.2
    rw [l_X11_costsInAll_4]
    simp only [zLit, hI_fs, h3]
    rw [if_pos (by rw [zI_lt (zR_s (by omega)) (zR_s (by omega))]; omega)]
    refine xw_k (c_flTold _ h hp hs) ?_
    intro r z1 hr hz1 ⟨f, inv, ct⟩
    have e1 : z1 101 = z 101 := f 101 rfl
    have ct := fun d => ct d 3 (by omega) (by omega)
    have cn := fun d => c_sceneN d hz1 (v := z 101) (PScenes_t hS (f 11 rfl) (f 12 rfl) (fun _ _ => rfl)) (e := e) (f := 0) ⟨h0, by omega⟩ (by omega)
    simp only [Int.add_zero] at cn
    have hx := fun a ha => ih (e + 1) a z1 inv e1 hp (by omega) (by omega) ha n (by omega)
    rw [spSum]
    unfold spCst
    simp only [cn, xbd_n]
    simp only [ct, xbd_n, zI_mul, zI_add]
    generalize spTold (z 101) (spC (z 101) p e) (spT (z 101) p e) 3 = t at *
    have m1 : z 101 (276 + 4 * e) * t ≤ 99 * 1098 := by
      by_cases w : 0 ≤ t
      · have := Int.mul_le_mul ws.2 tb.2 w (by omega)
        omega
      · have := Int.mul_nonneg (show 0 ≤ z 101 (276 + 4 * e) by omega) (show 0 ≤ -t by omega)
        rw [Int.mul_neg] at this
        omega
    have m2 : -891 ≤ z 101 (276 + 4 * e) * t := by
      by_cases w : 0 ≤ -t
      · have := Int.mul_le_mul ws.2 (show -t ≤ 9 by omega) w (by omega)
        rw [Int.mul_neg] at this
        omega
      · have := Int.mul_nonneg (show 0 ≤ z 101 (276 + 4 * e) by omega) (show 0 ≤ t by omega)
        omega
    exact hx _ ⟨by omega, by omega⟩
theorem m_costs_l (d : Nat) {v : Int → Int} {p : Int} (hpr : zR p) : ∀ (j : Nat) (e a : Int) (z : zH), Inv z → z 101 = v → (0 ≤ p ∧ p < v 8) → 0 ≤ e → e + j = v 9 → (-1000 * e ≤ a ∧ a ≤ 110000 * e) → ∀ n, j < n → xw (r_X12_costOf (d + 6) n 4 [some (xR 28 100), some (xI (zI p)), some (xI (zI a)), some (xI (zI e))] [] (hI z)) (fun r z' => r = spSum (spCst v p) j e a ∧ Inv z' ∧ z' 101 = v) := by
  have h9r : zR 9 := zR_s (by omega)
  have h0r : zR 0 := zR_s (by omega)
  intro j
  induction j with
  | zero =>
    intro e a z h hv hp h0 h1 ha n hn
    obtain ⟨n, rfl⟩ := Nat.exists_eq_succ_of_ne_zero (show n ≠ 0 by omega)
    subst hv
    have hS : PScenes 11 z (z 101) := h.2.1.2.2.2.2.1
    have h9 := hS.1.2.2.2.1
    rw [l_X12_costOf_4]
    simp only [zLit, lenX_s, zI_nat h9r, zld (show (0 : Int) ≤ 9 by omega)]
    rw [if_neg (by rw [zI_lt h9r h0r]; omega), if_neg (by rw [zI_lt (zR_s (by omega)) (zR_s (by omega))]; omega)]
    exact xw_ret (zR_s (by omega)) h.1 ⟨rfl, h, rfl⟩
  | succ j ih =>
    intro e a z h hv hp h0 h1 ha n hn
    obtain ⟨n, rfl⟩ := Nat.exists_eq_succ_of_ne_zero (show n ≠ 0 by omega)
    subst hv
    have hS : PScenes 11 z (z 101) := h.2.1.2.2.2.2.1
    have h9 := hS.1.2.2.2.1
    have ws := (hS.2 e h0 (by omega)).1
    have hs : e = -1 ∨ (0 ≤ e ∧ e < z 101 9) := by omega
    have ok := fl_ok h (p := p) hs
    have tb := spTold_b (t := (spT (z 101) p e : Int)) (w := 3) h.2.1.1.2 h.2.1.2.2.1 ok.1 ok.2
    rw [l_X12_costOf_4]
    simp only [zLit, lenX_s, zI_nat h9r, zld (show (0 : Int) ≤ 9 by omega)]
    rw [if_neg (by rw [zI_lt h9r h0r]; omega), if_pos (by rw [zI_lt (zR_s (by omega)) (zR_s (by omega))]; omega)]
    refine xw_k (m_flTold _ h hp hs) ?_
    intro r z1 hr hz1 ⟨f, inv, ct⟩
    have e1 : z1 101 = z 101 := f 101 rfl
    have ct := fun d => ct d 3 (by omega) (by omega)
    have cn := fun d => m_scene_ d (z := z1) (e := e) (f := 0) (by omega) (by omega)
    simp only [Int.add_zero, e1] at cn
    have hx := fun a ha => ih (e + 1) a z1 inv e1 hp (by omega) (by omega) ha n (by omega)
    rw [spSum]
    unfold spCst
    simp only [cn, xbd_n]
    simp only [ct, xbd_n, zI_mul, zI_add]
    generalize spTold (z 101) (spC (z 101) p e) (spT (z 101) p e) 3 = t at *
    have m1 : z 101 (276 + 4 * e) * t ≤ 99 * 1098 := by
      by_cases w : 0 ≤ t
      · have := Int.mul_le_mul ws.2 tb.2 w (by omega)
        omega
      · have := Int.mul_nonneg (show 0 ≤ z 101 (276 + 4 * e) by omega) (show 0 ≤ -t by omega)
        rw [Int.mul_neg] at this
        omega
    have m2 : -891 ≤ z 101 (276 + 4 * e) * t := by
      by_cases w : 0 ≤ -t
      · have := Int.mul_le_mul ws.2 (show -t ≤ 9 by omega) w (by omega)
        rw [Int.mul_neg] at this
        omega
      · have := Int.mul_nonneg (show 0 ≤ z 101 (276 + 4 * e) by omega) (show 0 ≤ t by omega)
        omega
    exact hx _ ⟨by omega, by omega⟩
abbrev spAll (v : Int → Int) (p : Int) : Int := spSum (spCst v p) (v 9).toNat 0 0
theorem spTold3_b {z : zH} {v : Int → Int} {c : crft} {t : Int} (hL : LandI v) (hE : PEnds 7 z v) (hC : okC v c) : 0 ≤ spTold v c t 3 ∧ spTold v c t 3 ≤ 1098 := by
  have cb := spCost_b hL hE hC
  simp only [spTold, reduceIte, Int.reduceEq]
  split <;> omega
theorem spAll_b {z : zH} (h : Inv z) (p : Int) : 0 ≤ spAll (z 101) p ∧ spAll (z 101) p ≤ 543510 := by
  have hS : PScenes 11 z (z 101) := h.2.1.2.2.2.2.1
  have h9 := hS.1.2.2.2.1
  have b := spSum_b (f := spCst (z 101) p) (lo := 0) (hi := 108702) (z 101 9).toNat 0 0 (fun k k0 k1 => by
    have ws := (hS.2 k k0 (by omega)).1
    have ok := fl_ok h (p := p) (s := k) (by omega)
    have tb := spTold3_b (t := (spT (z 101) p k : Int)) h.2.1.1.2 h.2.1.2.2.1 ok.1
    unfold spCst
    have m1 := Int.mul_nonneg (show 0 ≤ z 101 (276 + 4 * k) by omega) tb.1
    have m2 := Int.mul_le_mul ws.2 tb.2 tb.1 (by omega)
    exact ⟨m1, Int.le_trans m2 (by decide)⟩)
  have e : ((z 101 9).toNat : Int) = z 101 9 := Int.toNat_of_nonneg h9.1
  rw [e] at b
  show 0 ≤ spSum (spCst (z 101) p) (z 101 9).toNat 0 0 ∧ spSum (spCst (z 101) p) (z 101 9).toNat 0 0 ≤ 543510
  omega
theorem c_costs (d : Nat) {z : zH} (h : Inv z) {p : Int} (hp : 0 ≤ p ∧ p < z 101 8) : xw (cM (d + 7) 118 [xR 27 0, xI (zI p)] (hI z)) (fun r z' => r = spAll (z 101) p ∧ Inv z' ∧ z' 101 = z 101) := by
  have h9 := h.2.1.2.2.2.2.1.1.2.2.2.1
  have h8 := h.2.1.2.2.2.1.1.2.2.2
  rw [e_X11_costsInAll, show xF = 999999 + 1 from rfl, l_X11_costsInAll_0]
  simp only [zLit]
  exact c_costs_l d (zR_s (by omega)) (z 101 9).toNat 0 0 z h rfl hp (by omega) (by omega) (by omega) 999999 (by omega)
theorem m_costs (d : Nat) {z : zH} (h : Inv z) {p : Int} (hp : 0 ≤ p ∧ p < z 101 8) : xw (cM (d + 7) 205 [xR 28 100, xI (zI p)] (hI z)) (fun r z' => r = spAll (z 101) p ∧ Inv z' ∧ z' 101 = z 101) := by
  have h9 := h.2.1.2.2.2.2.1.1.2.2.2.1
  have h8 := h.2.1.2.2.2.1.1.2.2.2
  rw [e_X12_costOf, show xF = 999999 + 1 from rfl, l_X12_costOf_0]
  simp only [zLit]
  exact m_costs_l d (zR_s (by omega)) (z 101 9).toNat 0 0 z h rfl hp (by omega) (by omega) (by omega) 999999 (by omega)
theorem k_mean {z : zH} (h : Inv z) {p pt : Int} (hp : zR p) (hpt : zR pt) : two 117 206 [xI (zI p), xI (zI pt)] z := by
  have hI0 := h
  obtain ⟨hz, hW, hK, hT, hO, hSh, hF, hCt⟩ := h
  have hP : PPlans 9 z (z 101) := hW.2.2.2.1
  have hS : PScenes 11 z (z 101) := hW.2.2.2.2.1
  have r9 : z 9 3 = z 101 8 := hP.1.2.2.1
  have r11 : z 11 3 = z 101 9 := hS.1.2.2.1
  have b8 := hP.1.2.2.2
  have b9 := hS.1.2.2.2.1
  have wb := spWs_b hS
  have ab := spAll_b hI0 p
  by_cases q : (0 ≤ p ∧ p < z 101 8) ∧ (0 ≤ pt ∧ pt ≤ 1)
  · obtain ⟨qp, qt⟩ := q
    by_cases q9 : z 101 9 = 0
    · refine two_ro hI0 (-3) (by simp only [zR]; omega) ?_ ?_
      · rw [e_X11_mean]
        repeat' (first | (with_reducible apply hs_f; (case h => (first | (simp (disch := (first | exact hz _ _ | exact hv _ | exact hL | assumption | (simp (disch := decide) only [zup_ne]; exact hL) | (simp only [zR]; omega) | omega)) only [zLit, zI_div, hI_fs, hI_us, zI_add, zI_sub, zI_mul, zI_neg, zI_lt, zI_eq, zI_ite, xbd_s, zI_nat, zld, zst, zbd, zB_0, zB_1, lenX_s, zup_at, xgd, cond_true, cond_false, and_self, and_true, true_and, false_and, and_false, or_self, or_false, false_or, if_true, if_false, ite_true, ite_false, reduceIte, reduceCtorEq, Nat.reduceEqDiff, Nat.reduceAdd, Nat.reduceMul, Int.reduceNeg, Int.reduceAdd, Int.reduceSub, Int.reduceMul, Int.reduceLT, Int.reduceLE, Int.reduceEq, Int.reduceDiv, Int.reduceMod, Int.reduceToNat, Int.toNat_zero, Int.toNat_one, Nat.reduceLeDiff, Nat.reduceLT, ite_not, not_true, not_false_eq_true, r9, r11, q9] <;> omega) | omega))) | (with_reducible apply hs_t; (case h => (first | (simp (disch := (first | exact hz _ _ | exact hv _ | exact hL | assumption | (simp (disch := decide) only [zup_ne]; exact hL) | (simp only [zR]; omega) | omega)) only [zLit, zI_div, hI_fs, hI_us, zI_add, zI_sub, zI_mul, zI_neg, zI_lt, zI_eq, zI_ite, xbd_s, zI_nat, zld, zst, zbd, zB_0, zB_1, lenX_s, zup_at, xgd, cond_true, cond_false, and_self, and_true, true_and, false_and, and_false, or_self, or_false, false_or, if_true, if_false, ite_true, ite_false, reduceIte, reduceCtorEq, Nat.reduceEqDiff, Nat.reduceAdd, Nat.reduceMul, Int.reduceNeg, Int.reduceAdd, Int.reduceSub, Int.reduceMul, Int.reduceLT, Int.reduceLE, Int.reduceEq, Int.reduceDiv, Int.reduceMod, Int.reduceToNat, Int.toNat_zero, Int.toNat_one, Nat.reduceLeDiff, Nat.reduceLT, ite_not, not_true, not_false_eq_true, r9, r11, q9] <;> omega) | omega))) | (with_reducible apply hs_b; (case h => (simp (disch := (first | exact hz _ _ | exact hv _ | exact hL | assumption | (simp (disch := decide) only [zup_ne]; exact hL) | (simp only [zR]; omega) | omega)) only [zLit, zI_div, hI_fs, hI_us, zI_add, zI_sub, zI_mul, zI_neg, zI_lt, zI_eq, zI_ite, xbd_s, zI_nat, zld, zst, zbd, zB_0, zB_1, lenX_s, zup_at, xgd, cond_true, cond_false, and_self, and_true, true_and, false_and, and_false, or_self, or_false, false_or, if_true, if_false, ite_true, ite_false, reduceIte, reduceCtorEq, Nat.reduceEqDiff, Nat.reduceAdd, Nat.reduceMul, Int.reduceNeg, Int.reduceAdd, Int.reduceSub, Int.reduceMul, Int.reduceLT, Int.reduceLE, Int.reduceEq, Int.reduceDiv, Int.reduceMod, Int.reduceToNat, Int.toNat_zero, Int.toNat_one, Nat.reduceLeDiff, Nat.reduceLT, ite_not, not_true, not_false_eq_true, r9, r11, q9, c_rHas, c_within]; rfl)); try dsimp only) | (with_reducible apply hs_c <;> intro q9 <;> (try simp (disch := (first | exact hz _ _ | exact hv _ | exact hL | assumption | (simp (disch := decide) only [zup_ne]; exact hL) | (simp only [zR]; omega) | omega)) only [zLit, zI_div, hI_fs, hI_us, zI_add, zI_sub, zI_mul, zI_neg, zI_lt, zI_eq, zI_ite, xbd_s, zI_nat, zld, zst, zbd, zB_0, zB_1, lenX_s, zup_at, xgd, cond_true, cond_false, and_self, and_true, true_and, false_and, and_false, or_self, or_false, false_or, if_true, if_false, ite_true, ite_false, reduceIte, reduceCtorEq, Nat.reduceEqDiff, Nat.reduceAdd, Nat.reduceMul, Int.reduceNeg, Int.reduceAdd, Int.reduceSub, Int.reduceMul, Int.reduceLT, Int.reduceLE, Int.reduceEq, Int.reduceDiv, Int.reduceMod, Int.reduceToNat, Int.toNat_zero, Int.toNat_one, Nat.reduceLeDiff, Nat.reduceLT, ite_not, not_true, not_false_eq_true, r9, r11, q9] at q9)))
        all_goals first | rfl | omega | (simp (maxSteps := 3000000) (disch := (first | exact hz _ _ | exact hv _ | exact hL | assumption | (simp (disch := decide) only [zup_ne]; exact hL) | (simp only [zR]; omega) | omega)) only [zLit, zI_div, hI_fs, hI_us, zI_add, zI_sub, zI_mul, zI_neg, zI_lt, zI_eq, zI_ite, xbd_s, zI_nat, zld, zst, zbd, zB_0, zB_1, lenX_s, zup_at, xgd, cond_true, cond_false, and_self, and_true, true_and, false_and, and_false, or_self, or_false, false_or, if_true, if_false, ite_true, ite_false, reduceIte, reduceCtorEq, Nat.reduceEqDiff, Nat.reduceAdd, Nat.reduceMul, Int.reduceNeg, Int.reduceAdd, Int.reduceSub, Int.reduceMul, Int.reduceLT, Int.reduceLE, Int.reduceEq, Int.reduceDiv, Int.reduceMod, Int.reduceToNat, Int.toNat_zero, Int.toNat_one, Nat.reduceLeDiff, Nat.reduceLT, ite_not, not_true, not_false_eq_true]; done) | (simp (maxSteps := 3000000) (disch := (first | exact hz _ _ | exact hv _ | exact hL | assumption | (simp (disch := decide) only [zup_ne]; exact hL) | (simp only [zR]; omega) | omega)) only [zLit, zI_div, hI_fs, hI_us, zI_add, zI_sub, zI_mul, zI_neg, zI_lt, zI_eq, zI_ite, xbd_s, zI_nat, zld, zst, zbd, zB_0, zB_1, lenX_s, zup_at, xgd, cond_true, cond_false, and_self, and_true, true_and, false_and, and_false, or_self, or_false, false_or, if_true, if_false, ite_true, ite_false, reduceIte, reduceCtorEq, Nat.reduceEqDiff, Nat.reduceAdd, Nat.reduceMul, Int.reduceNeg, Int.reduceAdd, Int.reduceSub, Int.reduceMul, Int.reduceLT, Int.reduceLE, Int.reduceEq, Int.reduceDiv, Int.reduceMod, Int.reduceToNat, Int.toNat_zero, Int.toNat_one, Nat.reduceLeDiff, Nat.reduceLT, ite_not, not_true, not_false_eq_true]; rfl)
      · rw [e_X12_mean]
        repeat' (first | (with_reducible apply hs_f; (case h => (first | (simp (disch := (first | exact hz _ _ | exact hv _ | exact hL | assumption | (simp (disch := decide) only [zup_ne]; exact hL) | (simp only [zR]; omega) | omega)) only [zLit, zI_div, hI_fs, hI_us, zI_add, zI_sub, zI_mul, zI_neg, zI_lt, zI_eq, zI_ite, xbd_s, zI_nat, zld, zst, zbd, zB_0, zB_1, lenX_s, zup_at, xgd, cond_true, cond_false, and_self, and_true, true_and, false_and, and_false, or_self, or_false, false_or, if_true, if_false, ite_true, ite_false, reduceIte, reduceCtorEq, Nat.reduceEqDiff, Nat.reduceAdd, Nat.reduceMul, Int.reduceNeg, Int.reduceAdd, Int.reduceSub, Int.reduceMul, Int.reduceLT, Int.reduceLE, Int.reduceEq, Int.reduceDiv, Int.reduceMod, Int.reduceToNat, Int.toNat_zero, Int.toNat_one, Nat.reduceLeDiff, Nat.reduceLT, ite_not, not_true, not_false_eq_true, q9] <;> omega) | omega))) | (with_reducible apply hs_t; (case h => (first | (simp (disch := (first | exact hz _ _ | exact hv _ | exact hL | assumption | (simp (disch := decide) only [zup_ne]; exact hL) | (simp only [zR]; omega) | omega)) only [zLit, zI_div, hI_fs, hI_us, zI_add, zI_sub, zI_mul, zI_neg, zI_lt, zI_eq, zI_ite, xbd_s, zI_nat, zld, zst, zbd, zB_0, zB_1, lenX_s, zup_at, xgd, cond_true, cond_false, and_self, and_true, true_and, false_and, and_false, or_self, or_false, false_or, if_true, if_false, ite_true, ite_false, reduceIte, reduceCtorEq, Nat.reduceEqDiff, Nat.reduceAdd, Nat.reduceMul, Int.reduceNeg, Int.reduceAdd, Int.reduceSub, Int.reduceMul, Int.reduceLT, Int.reduceLE, Int.reduceEq, Int.reduceDiv, Int.reduceMod, Int.reduceToNat, Int.toNat_zero, Int.toNat_one, Nat.reduceLeDiff, Nat.reduceLT, ite_not, not_true, not_false_eq_true, q9] <;> omega) | omega))) | (with_reducible apply hs_b; (case h => (simp (disch := (first | exact hz _ _ | exact hv _ | exact hL | assumption | (simp (disch := decide) only [zup_ne]; exact hL) | (simp only [zR]; omega) | omega)) only [zLit, zI_div, hI_fs, hI_us, zI_add, zI_sub, zI_mul, zI_neg, zI_lt, zI_eq, zI_ite, xbd_s, zI_nat, zld, zst, zbd, zB_0, zB_1, lenX_s, zup_at, xgd, cond_true, cond_false, and_self, and_true, true_and, false_and, and_false, or_self, or_false, false_or, if_true, if_false, ite_true, ite_false, reduceIte, reduceCtorEq, Nat.reduceEqDiff, Nat.reduceAdd, Nat.reduceMul, Int.reduceNeg, Int.reduceAdd, Int.reduceSub, Int.reduceMul, Int.reduceLT, Int.reduceLE, Int.reduceEq, Int.reduceDiv, Int.reduceMod, Int.reduceToNat, Int.toNat_zero, Int.toNat_one, Nat.reduceLeDiff, Nat.reduceLT, ite_not, not_true, not_false_eq_true, q9, m_is, m_within]; rfl)); try dsimp only) | (with_reducible apply hs_c <;> intro q9 <;> (try simp (disch := (first | exact hz _ _ | exact hv _ | exact hL | assumption | (simp (disch := decide) only [zup_ne]; exact hL) | (simp only [zR]; omega) | omega)) only [zLit, zI_div, hI_fs, hI_us, zI_add, zI_sub, zI_mul, zI_neg, zI_lt, zI_eq, zI_ite, xbd_s, zI_nat, zld, zst, zbd, zB_0, zB_1, lenX_s, zup_at, xgd, cond_true, cond_false, and_self, and_true, true_and, false_and, and_false, or_self, or_false, false_or, if_true, if_false, ite_true, ite_false, reduceIte, reduceCtorEq, Nat.reduceEqDiff, Nat.reduceAdd, Nat.reduceMul, Int.reduceNeg, Int.reduceAdd, Int.reduceSub, Int.reduceMul, Int.reduceLT, Int.reduceLE, Int.reduceEq, Int.reduceDiv, Int.reduceMod, Int.reduceToNat, Int.toNat_zero, Int.toNat_one, Nat.reduceLeDiff, Nat.reduceLT, ite_not, not_true, not_false_eq_true, q9] at q9)))
        all_goals first | rfl | omega | (simp (maxSteps := 3000000) (disch := (first | exact hz _ _ | exact hv _ | exact hL | assumption | (simp (disch := decide) only [zup_ne]; exact hL) | (simp only [zR]; omega) | omega)) only [zLit, zI_div, hI_fs, hI_us, zI_add, zI_sub, zI_mul, zI_neg, zI_lt, zI_eq, zI_ite, xbd_s, zI_nat, zld, zst, zbd, zB_0, zB_1, lenX_s, zup_at, xgd, cond_true, cond_false, and_self, and_true, true_and, false_and, and_false, or_self, or_false, false_or, if_true, if_false, ite_true, ite_false, reduceIte, reduceCtorEq, Nat.reduceEqDiff, Nat.reduceAdd, Nat.reduceMul, Int.reduceNeg, Int.reduceAdd, Int.reduceSub, Int.reduceMul, Int.reduceLT, Int.reduceLE, Int.reduceEq, Int.reduceDiv, Int.reduceMod, Int.reduceToNat, Int.toNat_zero, Int.toNat_one, Nat.reduceLeDiff, Nat.reduceLT, ite_not, not_true, not_false_eq_true]; done) | (simp (maxSteps := 3000000) (disch := (first | exact hz _ _ | exact hv _ | exact hL | assumption | (simp (disch := decide) only [zup_ne]; exact hL) | (simp only [zR]; omega) | omega)) only [zLit, zI_div, hI_fs, hI_us, zI_add, zI_sub, zI_mul, zI_neg, zI_lt, zI_eq, zI_ite, xbd_s, zI_nat, zld, zst, zbd, zB_0, zB_1, lenX_s, zup_at, xgd, cond_true, cond_false, and_self, and_true, true_and, false_and, and_false, or_self, or_false, false_or, if_true, if_false, ite_true, ite_false, reduceIte, reduceCtorEq, Nat.reduceEqDiff, Nat.reduceAdd, Nat.reduceMul, Int.reduceNeg, Int.reduceAdd, Int.reduceSub, Int.reduceMul, Int.reduceLT, Int.reduceLE, Int.reduceEq, Int.reduceDiv, Int.reduceMod, Int.reduceToNat, Int.toNat_zero, Int.toNat_one, Nat.reduceLeDiff, Nat.reduceLT, ite_not, not_true, not_false_eq_true]; rfl)
    · have fr1 : zR (spPart (spAll (z 101) p) (spWs (z 101)) pt) := spPart_b ⟨ab.1, by omega⟩ ⟨by omega, by omega⟩
      refine xw_m (P := fun r z1 => r = spPart (spAll (z 101) p) (spWs (z 101)) pt ∧ Inv z1 ∧ z1 101 = z 101) ?_ ?_
      · rw [e_X11_mean]
        repeat' (first | (with_reducible apply xw_f; (case h => (first | (simp (disch := (first | exact hz _ _ | exact hv _ | exact hL | assumption | (simp (disch := decide) only [zup_ne]; exact hL) | (simp only [zR]; omega) | omega)) only [zLit, zI_div, hI_fs, hI_us, zI_add, zI_sub, zI_mul, zI_neg, zI_lt, zI_eq, zI_ite, xbd_s, zI_nat, zld, zst, zbd, zB_0, zB_1, lenX_s, zup_at, xgd, cond_true, cond_false, and_self, and_true, true_and, false_and, and_false, or_self, or_false, false_or, if_true, if_false, ite_true, ite_false, reduceIte, reduceCtorEq, Nat.reduceEqDiff, Nat.reduceAdd, Nat.reduceMul, Int.reduceNeg, Int.reduceAdd, Int.reduceSub, Int.reduceMul, Int.reduceLT, Int.reduceLE, Int.reduceEq, Int.reduceDiv, Int.reduceMod, Int.reduceToNat, Int.toNat_zero, Int.toNat_one, Nat.reduceLeDiff, Nat.reduceLT, ite_not, not_true, not_false_eq_true, r9, r11] <;> omega) | omega))) | (with_reducible apply xw_t; (case h => (first | (simp (disch := (first | exact hz _ _ | exact hv _ | exact hL | assumption | (simp (disch := decide) only [zup_ne]; exact hL) | (simp only [zR]; omega) | omega)) only [zLit, zI_div, hI_fs, hI_us, zI_add, zI_sub, zI_mul, zI_neg, zI_lt, zI_eq, zI_ite, xbd_s, zI_nat, zld, zst, zbd, zB_0, zB_1, lenX_s, zup_at, xgd, cond_true, cond_false, and_self, and_true, true_and, false_and, and_false, or_self, or_false, false_or, if_true, if_false, ite_true, ite_false, reduceIte, reduceCtorEq, Nat.reduceEqDiff, Nat.reduceAdd, Nat.reduceMul, Int.reduceNeg, Int.reduceAdd, Int.reduceSub, Int.reduceMul, Int.reduceLT, Int.reduceLE, Int.reduceEq, Int.reduceDiv, Int.reduceMod, Int.reduceToNat, Int.toNat_zero, Int.toNat_one, Nat.reduceLeDiff, Nat.reduceLT, ite_not, not_true, not_false_eq_true, r9, r11] <;> omega) | omega))) | (with_reducible apply xw_b; (case h => (simp (disch := (first | exact hz _ _ | exact hv _ | exact hL | assumption | (simp (disch := decide) only [zup_ne]; exact hL) | (simp only [zR]; omega) | omega)) only [zLit, zI_div, hI_fs, hI_us, zI_add, zI_sub, zI_mul, zI_neg, zI_lt, zI_eq, zI_ite, xbd_s, zI_nat, zld, zst, zbd, zB_0, zB_1, lenX_s, zup_at, xgd, cond_true, cond_false, and_self, and_true, true_and, false_and, and_false, or_self, or_false, false_or, if_true, if_false, ite_true, ite_false, reduceIte, reduceCtorEq, Nat.reduceEqDiff, Nat.reduceAdd, Nat.reduceMul, Int.reduceNeg, Int.reduceAdd, Int.reduceSub, Int.reduceMul, Int.reduceLT, Int.reduceLE, Int.reduceEq, Int.reduceDiv, Int.reduceMod, Int.reduceToNat, Int.toNat_zero, Int.toNat_one, Nat.reduceLeDiff, Nat.reduceLT, ite_not, not_true, not_false_eq_true, r9, r11, c_rHas, c_within]; rfl)); try dsimp only) | (with_reducible apply xw_c <;> intro q9 <;> (try simp (disch := (first | exact hz _ _ | exact hv _ | exact hL | assumption | (simp (disch := decide) only [zup_ne]; exact hL) | (simp only [zR]; omega) | omega)) only [zLit, zI_div, hI_fs, hI_us, zI_add, zI_sub, zI_mul, zI_neg, zI_lt, zI_eq, zI_ite, xbd_s, zI_nat, zld, zst, zbd, zB_0, zB_1, lenX_s, zup_at, xgd, cond_true, cond_false, and_self, and_true, true_and, false_and, and_false, or_self, or_false, false_or, if_true, if_false, ite_true, ite_false, reduceIte, reduceCtorEq, Nat.reduceEqDiff, Nat.reduceAdd, Nat.reduceMul, Int.reduceNeg, Int.reduceAdd, Int.reduceSub, Int.reduceMul, Int.reduceLT, Int.reduceLE, Int.reduceEq, Int.reduceDiv, Int.reduceMod, Int.reduceToNat, Int.toNat_zero, Int.toNat_one, Nat.reduceLeDiff, Nat.reduceLT, ite_not, not_true, not_false_eq_true, r9, r11] at q9)))
        refine xw_k (c_costs 52 hI0 qp) ?_
        intro r z1 hr hz1 ⟨e, inv, e1⟩
        subst e
        have hS1 : PScenes 11 z1 (z1 101) := inv.2.1.2.2.2.2.1
        rw [e1] at hS1
        have cw := fun d => c_weights d hz1 hS1
        have cf := fun d => c_frac d (hI z1) (a := spAll (z 101) p) (b := spWs (z 101)) (p := pt) ⟨ab.1, by omega⟩ ⟨by omega, by omega⟩ (by omega)
        simp only [zLit, cw, xbd_n]
        simp only [cf, xbd_n]
        exact xw_ret fr1 hz1 ⟨rfl, inv, e1⟩
      · intro r z1 hr hz1 ⟨e, inv, e1⟩
        have b81 : 0 ≤ z1 101 8 ∧ z1 101 8 ≤ 4 := by rw [e1]; exact b8
        have b91 : 0 ≤ z1 101 9 ∧ z1 101 9 ≤ 5 := by rw [e1]; exact b9
        have qp1 : 0 ≤ p ∧ p < z1 101 8 := by rw [e1]; exact qp
        have q91 : ¬ z1 101 9 = 0 := by rw [e1]; exact q9
        have hz := hz1
        rw [e_X12_mean]
        repeat' (first | (with_reducible apply xw_f; (case h => (first | (simp (disch := (first | exact hz _ _ | exact hv _ | exact hL | assumption | (simp (disch := decide) only [zup_ne]; exact hL) | (simp only [zR]; omega) | omega)) only [zLit, zI_div, hI_fs, hI_us, zI_add, zI_sub, zI_mul, zI_neg, zI_lt, zI_eq, zI_ite, xbd_s, zI_nat, zld, zst, zbd, zB_0, zB_1, lenX_s, zup_at, xgd, cond_true, cond_false, and_self, and_true, true_and, false_and, and_false, or_self, or_false, false_or, if_true, if_false, ite_true, ite_false, reduceIte, reduceCtorEq, Nat.reduceEqDiff, Nat.reduceAdd, Nat.reduceMul, Int.reduceNeg, Int.reduceAdd, Int.reduceSub, Int.reduceMul, Int.reduceLT, Int.reduceLE, Int.reduceEq, Int.reduceDiv, Int.reduceMod, Int.reduceToNat, Int.toNat_zero, Int.toNat_one, Nat.reduceLeDiff, Nat.reduceLT, ite_not, not_true, not_false_eq_true] <;> omega) | omega))) | (with_reducible apply xw_t; (case h => (first | (simp (disch := (first | exact hz _ _ | exact hv _ | exact hL | assumption | (simp (disch := decide) only [zup_ne]; exact hL) | (simp only [zR]; omega) | omega)) only [zLit, zI_div, hI_fs, hI_us, zI_add, zI_sub, zI_mul, zI_neg, zI_lt, zI_eq, zI_ite, xbd_s, zI_nat, zld, zst, zbd, zB_0, zB_1, lenX_s, zup_at, xgd, cond_true, cond_false, and_self, and_true, true_and, false_and, and_false, or_self, or_false, false_or, if_true, if_false, ite_true, ite_false, reduceIte, reduceCtorEq, Nat.reduceEqDiff, Nat.reduceAdd, Nat.reduceMul, Int.reduceNeg, Int.reduceAdd, Int.reduceSub, Int.reduceMul, Int.reduceLT, Int.reduceLE, Int.reduceEq, Int.reduceDiv, Int.reduceMod, Int.reduceToNat, Int.toNat_zero, Int.toNat_one, Nat.reduceLeDiff, Nat.reduceLT, ite_not, not_true, not_false_eq_true] <;> omega) | omega))) | (with_reducible apply xw_b; (case h => (simp (disch := (first | exact hz _ _ | exact hv _ | exact hL | assumption | (simp (disch := decide) only [zup_ne]; exact hL) | (simp only [zR]; omega) | omega)) only [zLit, zI_div, hI_fs, hI_us, zI_add, zI_sub, zI_mul, zI_neg, zI_lt, zI_eq, zI_ite, xbd_s, zI_nat, zld, zst, zbd, zB_0, zB_1, lenX_s, zup_at, xgd, cond_true, cond_false, and_self, and_true, true_and, false_and, and_false, or_self, or_false, false_or, if_true, if_false, ite_true, ite_false, reduceIte, reduceCtorEq, Nat.reduceEqDiff, Nat.reduceAdd, Nat.reduceMul, Int.reduceNeg, Int.reduceAdd, Int.reduceSub, Int.reduceMul, Int.reduceLT, Int.reduceLE, Int.reduceEq, Int.reduceDiv, Int.reduceMod, Int.reduceToNat, Int.toNat_zero, Int.toNat_one, Nat.reduceLeDiff, Nat.reduceLT, ite_not, not_true, not_false_eq_true, m_is, m_within]; rfl)); try dsimp only) | (with_reducible apply xw_c <;> intro q9 <;> (try simp (disch := (first | exact hz _ _ | exact hv _ | exact hL | assumption | (simp (disch := decide) only [zup_ne]; exact hL) | (simp only [zR]; omega) | omega)) only [zLit, zI_div, hI_fs, hI_us, zI_add, zI_sub, zI_mul, zI_neg, zI_lt, zI_eq, zI_ite, xbd_s, zI_nat, zld, zst, zbd, zB_0, zB_1, lenX_s, zup_at, xgd, cond_true, cond_false, and_self, and_true, true_and, false_and, and_false, or_self, or_false, false_or, if_true, if_false, ite_true, ite_false, reduceIte, reduceCtorEq, Nat.reduceEqDiff, Nat.reduceAdd, Nat.reduceMul, Int.reduceNeg, Int.reduceAdd, Int.reduceSub, Int.reduceMul, Int.reduceLT, Int.reduceLE, Int.reduceEq, Int.reduceDiv, Int.reduceMod, Int.reduceToNat, Int.toNat_zero, Int.toNat_one, Nat.reduceLeDiff, Nat.reduceLT, ite_not, not_true, not_false_eq_true] at q9)))
        refine xw_k (m_costs 52 inv qp1) ?_
        intro r2 z2 hr2 hz2 ⟨e2, inv2, e3⟩
        rw [e1] at e2 e3
        subst e2
        have cw := fun d => m_weights d hz2 (by rw [e3]; exact b9)
        rw [e3] at cw
        have cf := fun d => m_part d (hI z2) (a := spAll (z 101) p) (b := spWs (z 101)) (p := pt) ⟨ab.1, by omega⟩ ⟨by omega, by omega⟩ (by omega)
        simp only [cw, xbd_n]
        simp only [cf, xbd_n]
        exact xw_ret fr1 hz2 ⟨e.symm, inv2⟩
  · refine two_ro hI0 (-1) (by simp only [zR]; omega) ?_ ?_
    · rw [e_X11_mean]
      repeat' (first | (with_reducible apply hs_f; (case h => (first | (simp (disch := (first | exact hz _ _ | exact hv _ | exact hL | assumption | (simp (disch := decide) only [zup_ne]; exact hL) | (simp only [zR]; omega) | omega)) only [zLit, zI_div, hI_fs, hI_us, zI_add, zI_sub, zI_mul, zI_neg, zI_lt, zI_eq, zI_ite, xbd_s, zI_nat, zld, zst, zbd, zB_0, zB_1, lenX_s, zup_at, xgd, cond_true, cond_false, and_self, and_true, true_and, false_and, and_false, or_self, or_false, false_or, if_true, if_false, ite_true, ite_false, reduceIte, reduceCtorEq, Nat.reduceEqDiff, Nat.reduceAdd, Nat.reduceMul, Int.reduceNeg, Int.reduceAdd, Int.reduceSub, Int.reduceMul, Int.reduceLT, Int.reduceLE, Int.reduceEq, Int.reduceDiv, Int.reduceMod, Int.reduceToNat, Int.toNat_zero, Int.toNat_one, Nat.reduceLeDiff, Nat.reduceLT, ite_not, not_true, not_false_eq_true, r9] <;> omega) | omega))) | (with_reducible apply hs_t; (case h => (first | (simp (disch := (first | exact hz _ _ | exact hv _ | exact hL | assumption | (simp (disch := decide) only [zup_ne]; exact hL) | (simp only [zR]; omega) | omega)) only [zLit, zI_div, hI_fs, hI_us, zI_add, zI_sub, zI_mul, zI_neg, zI_lt, zI_eq, zI_ite, xbd_s, zI_nat, zld, zst, zbd, zB_0, zB_1, lenX_s, zup_at, xgd, cond_true, cond_false, and_self, and_true, true_and, false_and, and_false, or_self, or_false, false_or, if_true, if_false, ite_true, ite_false, reduceIte, reduceCtorEq, Nat.reduceEqDiff, Nat.reduceAdd, Nat.reduceMul, Int.reduceNeg, Int.reduceAdd, Int.reduceSub, Int.reduceMul, Int.reduceLT, Int.reduceLE, Int.reduceEq, Int.reduceDiv, Int.reduceMod, Int.reduceToNat, Int.toNat_zero, Int.toNat_one, Nat.reduceLeDiff, Nat.reduceLT, ite_not, not_true, not_false_eq_true, r9] <;> omega) | omega))) | (with_reducible apply hs_b; (case h => (simp (disch := (first | exact hz _ _ | exact hv _ | exact hL | assumption | (simp (disch := decide) only [zup_ne]; exact hL) | (simp only [zR]; omega) | omega)) only [zLit, zI_div, hI_fs, hI_us, zI_add, zI_sub, zI_mul, zI_neg, zI_lt, zI_eq, zI_ite, xbd_s, zI_nat, zld, zst, zbd, zB_0, zB_1, lenX_s, zup_at, xgd, cond_true, cond_false, and_self, and_true, true_and, false_and, and_false, or_self, or_false, false_or, if_true, if_false, ite_true, ite_false, reduceIte, reduceCtorEq, Nat.reduceEqDiff, Nat.reduceAdd, Nat.reduceMul, Int.reduceNeg, Int.reduceAdd, Int.reduceSub, Int.reduceMul, Int.reduceLT, Int.reduceLE, Int.reduceEq, Int.reduceDiv, Int.reduceMod, Int.reduceToNat, Int.toNat_zero, Int.toNat_one, Nat.reduceLeDiff, Nat.reduceLT, ite_not, not_true, not_false_eq_true, r9, c_rHas, c_within]; rfl)); try dsimp only) | (with_reducible apply hs_c <;> intro q9 <;> (try simp (disch := (first | exact hz _ _ | exact hv _ | exact hL | assumption | (simp (disch := decide) only [zup_ne]; exact hL) | (simp only [zR]; omega) | omega)) only [zLit, zI_div, hI_fs, hI_us, zI_add, zI_sub, zI_mul, zI_neg, zI_lt, zI_eq, zI_ite, xbd_s, zI_nat, zld, zst, zbd, zB_0, zB_1, lenX_s, zup_at, xgd, cond_true, cond_false, and_self, and_true, true_and, false_and, and_false, or_self, or_false, false_or, if_true, if_false, ite_true, ite_false, reduceIte, reduceCtorEq, Nat.reduceEqDiff, Nat.reduceAdd, Nat.reduceMul, Int.reduceNeg, Int.reduceAdd, Int.reduceSub, Int.reduceMul, Int.reduceLT, Int.reduceLE, Int.reduceEq, Int.reduceDiv, Int.reduceMod, Int.reduceToNat, Int.toNat_zero, Int.toNat_one, Nat.reduceLeDiff, Nat.reduceLT, ite_not, not_true, not_false_eq_true, r9] at q9)))
      all_goals first | rfl | omega | (simp (maxSteps := 3000000) (disch := (first | exact hz _ _ | exact hv _ | exact hL | assumption | (simp (disch := decide) only [zup_ne]; exact hL) | (simp only [zR]; omega) | omega)) only [zLit, zI_div, hI_fs, hI_us, zI_add, zI_sub, zI_mul, zI_neg, zI_lt, zI_eq, zI_ite, xbd_s, zI_nat, zld, zst, zbd, zB_0, zB_1, lenX_s, zup_at, xgd, cond_true, cond_false, and_self, and_true, true_and, false_and, and_false, or_self, or_false, false_or, if_true, if_false, ite_true, ite_false, reduceIte, reduceCtorEq, Nat.reduceEqDiff, Nat.reduceAdd, Nat.reduceMul, Int.reduceNeg, Int.reduceAdd, Int.reduceSub, Int.reduceMul, Int.reduceLT, Int.reduceLE, Int.reduceEq, Int.reduceDiv, Int.reduceMod, Int.reduceToNat, Int.toNat_zero, Int.toNat_one, Nat.reduceLeDiff, Nat.reduceLT, ite_not, not_true, not_false_eq_true]; done) | (simp (maxSteps := 3000000) (disch := (first | exact hz _ _ | exact hv _ | exact hL | assumption | (simp (disch := decide) only [zup_ne]; exact hL) | (simp only [zR]; omega) | omega)) only [zLit, zI_div, hI_fs, hI_us, zI_add, zI_sub, zI_mul, zI_neg, zI_lt, zI_eq, zI_ite, xbd_s, zI_nat, zld, zst, zbd, zB_0, zB_1, lenX_s, zup_at, xgd, cond_true, cond_false, and_self, and_true, true_and, false_and, and_false, or_self, or_false, false_or, if_true, if_false, ite_true, ite_false, reduceIte, reduceCtorEq, Nat.reduceEqDiff, Nat.reduceAdd, Nat.reduceMul, Int.reduceNeg, Int.reduceAdd, Int.reduceSub, Int.reduceMul, Int.reduceLT, Int.reduceLE, Int.reduceEq, Int.reduceDiv, Int.reduceMod, Int.reduceToNat, Int.toNat_zero, Int.toNat_one, Nat.reduceLeDiff, Nat.reduceLT, ite_not, not_true, not_false_eq_true]; rfl)
    · rw [e_X12_mean]
      repeat' (first | (with_reducible apply hs_f; (case h => (first | (simp (disch := (first | exact hz _ _ | exact hv _ | exact hL | assumption | (simp (disch := decide) only [zup_ne]; exact hL) | (simp only [zR]; omega) | omega)) only [zLit, zI_div, hI_fs, hI_us, zI_add, zI_sub, zI_mul, zI_neg, zI_lt, zI_eq, zI_ite, xbd_s, zI_nat, zld, zst, zbd, zB_0, zB_1, lenX_s, zup_at, xgd, cond_true, cond_false, and_self, and_true, true_and, false_and, and_false, or_self, or_false, false_or, if_true, if_false, ite_true, ite_false, reduceIte, reduceCtorEq, Nat.reduceEqDiff, Nat.reduceAdd, Nat.reduceMul, Int.reduceNeg, Int.reduceAdd, Int.reduceSub, Int.reduceMul, Int.reduceLT, Int.reduceLE, Int.reduceEq, Int.reduceDiv, Int.reduceMod, Int.reduceToNat, Int.toNat_zero, Int.toNat_one, Nat.reduceLeDiff, Nat.reduceLT, ite_not, not_true, not_false_eq_true] <;> omega) | omega))) | (with_reducible apply hs_t; (case h => (first | (simp (disch := (first | exact hz _ _ | exact hv _ | exact hL | assumption | (simp (disch := decide) only [zup_ne]; exact hL) | (simp only [zR]; omega) | omega)) only [zLit, zI_div, hI_fs, hI_us, zI_add, zI_sub, zI_mul, zI_neg, zI_lt, zI_eq, zI_ite, xbd_s, zI_nat, zld, zst, zbd, zB_0, zB_1, lenX_s, zup_at, xgd, cond_true, cond_false, and_self, and_true, true_and, false_and, and_false, or_self, or_false, false_or, if_true, if_false, ite_true, ite_false, reduceIte, reduceCtorEq, Nat.reduceEqDiff, Nat.reduceAdd, Nat.reduceMul, Int.reduceNeg, Int.reduceAdd, Int.reduceSub, Int.reduceMul, Int.reduceLT, Int.reduceLE, Int.reduceEq, Int.reduceDiv, Int.reduceMod, Int.reduceToNat, Int.toNat_zero, Int.toNat_one, Nat.reduceLeDiff, Nat.reduceLT, ite_not, not_true, not_false_eq_true] <;> omega) | omega))) | (with_reducible apply hs_b; (case h => (simp (disch := (first | exact hz _ _ | exact hv _ | exact hL | assumption | (simp (disch := decide) only [zup_ne]; exact hL) | (simp only [zR]; omega) | omega)) only [zLit, zI_div, hI_fs, hI_us, zI_add, zI_sub, zI_mul, zI_neg, zI_lt, zI_eq, zI_ite, xbd_s, zI_nat, zld, zst, zbd, zB_0, zB_1, lenX_s, zup_at, xgd, cond_true, cond_false, and_self, and_true, true_and, false_and, and_false, or_self, or_false, false_or, if_true, if_false, ite_true, ite_false, reduceIte, reduceCtorEq, Nat.reduceEqDiff, Nat.reduceAdd, Nat.reduceMul, Int.reduceNeg, Int.reduceAdd, Int.reduceSub, Int.reduceMul, Int.reduceLT, Int.reduceLE, Int.reduceEq, Int.reduceDiv, Int.reduceMod, Int.reduceToNat, Int.toNat_zero, Int.toNat_one, Nat.reduceLeDiff, Nat.reduceLT, ite_not, not_true, not_false_eq_true, m_is, m_within]; rfl)); try dsimp only) | (with_reducible apply hs_c <;> intro q9 <;> (try simp (disch := (first | exact hz _ _ | exact hv _ | exact hL | assumption | (simp (disch := decide) only [zup_ne]; exact hL) | (simp only [zR]; omega) | omega)) only [zLit, zI_div, hI_fs, hI_us, zI_add, zI_sub, zI_mul, zI_neg, zI_lt, zI_eq, zI_ite, xbd_s, zI_nat, zld, zst, zbd, zB_0, zB_1, lenX_s, zup_at, xgd, cond_true, cond_false, and_self, and_true, true_and, false_and, and_false, or_self, or_false, false_or, if_true, if_false, ite_true, ite_false, reduceIte, reduceCtorEq, Nat.reduceEqDiff, Nat.reduceAdd, Nat.reduceMul, Int.reduceNeg, Int.reduceAdd, Int.reduceSub, Int.reduceMul, Int.reduceLT, Int.reduceLE, Int.reduceEq, Int.reduceDiv, Int.reduceMod, Int.reduceToNat, Int.toNat_zero, Int.toNat_one, Nat.reduceLeDiff, Nat.reduceLT, ite_not, not_true, not_false_eq_true] at q9)))
      all_goals first | rfl | omega | (simp (maxSteps := 3000000) (disch := (first | exact hz _ _ | exact hv _ | exact hL | assumption | (simp (disch := decide) only [zup_ne]; exact hL) | (simp only [zR]; omega) | omega)) only [zLit, zI_div, hI_fs, hI_us, zI_add, zI_sub, zI_mul, zI_neg, zI_lt, zI_eq, zI_ite, xbd_s, zI_nat, zld, zst, zbd, zB_0, zB_1, lenX_s, zup_at, xgd, cond_true, cond_false, and_self, and_true, true_and, false_and, and_false, or_self, or_false, false_or, if_true, if_false, ite_true, ite_false, reduceIte, reduceCtorEq, Nat.reduceEqDiff, Nat.reduceAdd, Nat.reduceMul, Int.reduceNeg, Int.reduceAdd, Int.reduceSub, Int.reduceMul, Int.reduceLT, Int.reduceLE, Int.reduceEq, Int.reduceDiv, Int.reduceMod, Int.reduceToNat, Int.toNat_zero, Int.toNat_one, Nat.reduceLeDiff, Nat.reduceLT, ite_not, not_true, not_false_eq_true]; done) | (simp (maxSteps := 3000000) (disch := (first | exact hz _ _ | exact hv _ | exact hL | assumption | (simp (disch := decide) only [zup_ne]; exact hL) | (simp only [zR]; omega) | omega)) only [zLit, zI_div, hI_fs, hI_us, zI_add, zI_sub, zI_mul, zI_neg, zI_lt, zI_eq, zI_ite, xbd_s, zI_nat, zld, zst, zbd, zB_0, zB_1, lenX_s, zup_at, xgd, cond_true, cond_false, and_self, and_true, true_and, false_and, and_false, or_self, or_false, false_or, if_true, if_false, ite_true, ite_false, reduceIte, reduceCtorEq, Nat.reduceEqDiff, Nat.reduceAdd, Nat.reduceMul, Int.reduceNeg, Int.reduceAdd, Int.reduceSub, Int.reduceMul, Int.reduceLT, Int.reduceLE, Int.reduceEq, Int.reduceDiv, Int.reduceMod, Int.reduceToNat, Int.toNat_zero, Int.toNat_one, Nat.reduceLeDiff, Nat.reduceLT, ite_not, not_true, not_false_eq_true]; rfl)
def spBestP (f : Int → Int) : Nat → Int → Int → Int → Int
  | 0, _, b, _ => b
  | m + 1, p, b, l => if b = -3 ∨ f p < l then spBestP f m (p + 1) p (f p) else spBestP f m (p + 1) b l
theorem c_bestP_l (d : Nat) {v : Int → Int} : ∀ (j : Nat) (p b l : Int) (z : zH), Inv z → z 101 = v → 0 ≤ p → p + j = v 8 → (b = -3 ∨ (0 ≤ b ∧ b < p)) → (0 ≤ l ∧ l ≤ 543510) → ∀ n, j < n → xw (r_X11_bestPlan (d + 7) n 23 [some (xR 27 0), some (xI (zI b)), some (xI (zI l)), some (xI (zI p)), none] [] (hI z)) (fun r z' => r = spBestP (spAll v) j p b l ∧ Inv z' ∧ z' 101 = v) := by
  intro j
  induction j with
  | zero =>
    intro p b l z h hv h0 h1 hb hl n hn
    obtain ⟨n, rfl⟩ := Nat.exists_eq_succ_of_ne_zero (show n ≠ 0 by omega)
    subst hv
    have hP : PPlans 9 z (z 101) := h.2.1.2.2.2.1
    have h3 : z 9 3 = z 101 8 := hP.1.2.2.1
    have h8 := hP.1.2.2.2
    rw [l_X11_bestPlan_23]
    simp only [zLit, hI_fs, h3]
    rw [if_neg (by rw [zI_lt (zR_s (by omega)) (zR_s (by omega))]; omega)]
    exact xw_ret (zR_s (by omega)) h.1 ⟨rfl, h, rfl⟩
  | succ j ih =>
    intro p b l z h hv h0 h1 hb hl n hn
    obtain ⟨n, rfl⟩ := Nat.exists_eq_succ_of_ne_zero (show n ≠ 0 by omega)
    subst hv
    have hP : PPlans 9 z (z 101) := h.2.1.2.2.2.1
    have h3 : z 9 3 = z 101 8 := hP.1.2.2.1
    have h8 := hP.1.2.2.2
    have ab := spAll_b h p
    rw [l_X11_bestPlan_23]
    simp only [zLit, hI_fs, h3]
    rw [if_pos (by rw [zI_lt (zR_s (by omega)) (zR_s (by omega))]; omega)]
    refine xw_k (c_costs _ h (p := p) (by omega)) ?_
    intro r z1 hr hz1 ⟨e, inv, e1⟩
    have hx := fun b l hb hl => ih (p + 1) b l z1 inv e1 (by omega) (by omega) hb hl n (by omega)
    rw [spBestP, ← e, zI_neg, zI_add]
    rw [← e] at ab
    by_cases q1 : b = -3
    · rw [if_pos (by rw [q1]), if_pos (Or.inl q1)]
      exact hx _ _ (by omega) ab
    · rw [if_neg (by rw [zI_eq (zR_s (by omega)) (zR_s (by omega))]; exact q1)]
      by_cases q2 : r < l
      · rw [if_pos (by rw [zI_lt (zR_s (by omega)) (zR_s (by omega))]; exact q2), if_pos (Or.inr q2)]
        exact hx _ _ (by omega) ab
      · rw [if_neg (by rw [zI_lt (zR_s (by omega)) (zR_s (by omega))]; exact q2), if_neg (by omega)]
        exact hx _ _ (by omega) hl
theorem m_bestP_l (d : Nat) {v : Int → Int} (h9 : 0 < v 9 ∧ v 9 ≤ 5) : ∀ (j : Nat) (p b l : Int) (z : zH), Inv z → z 101 = v → 0 ≤ p → p + j = v 8 → (b = -3 ∨ (0 ≤ b ∧ b < p)) → (0 ≤ l ∧ l ≤ 543510) → ∀ n, j < n → xw (r_X12_bestPlan (d + 7) n 7 [some (xR 28 100), some (xI (zI b)), some (xI (zI l)), some (xI (zI p)), none] [] (hI z)) (fun r z' => r = spBestP (spAll v) j p b l ∧ Inv z' ∧ z' 101 = v) := by
  have h9r : zR 9 := zR_s (by omega)
  have h8r : zR 8 := zR_s (by omega)
  have h0r : zR 0 := zR_s (by omega)
  intro j
  induction j with
  | zero =>
    intro p b l z h hv h0 h1 hb hl n hn
    obtain ⟨n, rfl⟩ := Nat.exists_eq_succ_of_ne_zero (show n ≠ 0 by omega)
    subst hv
    have hP : PPlans 9 z (z 101) := h.2.1.2.2.2.1
    have h8 := hP.1.2.2.2
    rw [l_X12_bestPlan_7]
    simp only [zLit, lenX_s, zI_nat h9r, zI_nat h8r, zld (show (0 : Int) ≤ 9 by omega), zld (show (0 : Int) ≤ 8 by omega)]
    rw [if_neg (by rw [zI_lt h8r h0r]; omega), if_neg (by rw [zI_lt (zR_s (by omega)) (zR_s (by omega))]; omega)]
    exact xw_ret (zR_s (by omega)) h.1 ⟨rfl, h, rfl⟩
  | succ j ih =>
    intro p b l z h hv h0 h1 hb hl n hn
    obtain ⟨n, rfl⟩ := Nat.exists_eq_succ_of_ne_zero (show n ≠ 0 by omega)
    subst hv
    have hP : PPlans 9 z (z 101) := h.2.1.2.2.2.1
    have h8 := hP.1.2.2.2
    have ab := spAll_b h p
    rw [l_X12_bestPlan_7]
    simp only [zLit, lenX_s, zI_nat h9r, zI_nat h8r, zld (show (0 : Int) ≤ 9 by omega), zld (show (0 : Int) ≤ 8 by omega)]
    rw [if_neg (by rw [zI_lt h8r h0r]; omega), if_pos (by rw [zI_lt (zR_s (by omega)) (zR_s (by omega))]; omega), if_neg (by rw [zI_lt h9r h0r]; omega), if_pos (by rw [zI_lt (zR_s (by omega)) (zR_s (by omega))]; omega)]
    refine xw_k (m_costs _ h (p := p) (by omega)) ?_
    intro r z1 hr hz1 ⟨e, inv, e1⟩
    have hx := fun b l hb hl => ih (p + 1) b l z1 inv e1 (by omega) (by omega) hb hl n (by omega)
    rw [spBestP, ← e, zI_add]
    rw [← e] at ab
    by_cases q1 : b = -3
    · rw [if_pos (by rw [zI_lt (zR_s (by omega)) (zR_s (by omega))]; omega), if_pos (Or.inl q1)]
      exact hx _ _ (by omega) ab
    · rw [if_neg (by rw [zI_lt (zR_s (by omega)) (zR_s (by omega))]; omega)]
      by_cases q2 : r < l
      · rw [if_pos (by rw [zI_lt (zR_s (by omega)) (zR_s (by omega))]; exact q2), if_pos (Or.inr q2)]
        exact hx _ _ (by omega) ab
      · rw [if_neg (by rw [zI_lt (zR_s (by omega)) (zR_s (by omega))]; exact q2), if_neg (by omega)]
        exact hx _ _ (by omega) hl
theorem k_bestPlan {z : zH} (h : Inv z) : two 119 207 [] z := by
  have hI0 := h
  obtain ⟨hz, hW, hK, hT, hO, hSh, hF, hCt⟩ := h
  have hP : PPlans 9 z (z 101) := hW.2.2.2.1
  have hS : PScenes 11 z (z 101) := hW.2.2.2.2.1
  have r11 : z 11 3 = z 101 9 := hS.1.2.2.1
  have b8 := hP.1.2.2.2
  have b9 := hS.1.2.2.2.1
  by_cases q9 : z 101 9 = 0
  · have h9r : zR 9 := zR_s (by omega)
    have h8r : zR 8 := zR_s (by omega)
    have h0r : zR 0 := zR_s (by omega)
    refine two_ro hI0 (-3) (by simp only [zR]; omega) ?_ ?_
    · rw [e_X11_bestPlan, show xF = 999999 + 1 from rfl, l_X11_bestPlan_0]
      repeat' (first | (with_reducible apply hs_f; (case h => (first | (simp (disch := (first | exact hz _ _ | exact hv _ | exact hL | assumption | (simp (disch := decide) only [zup_ne]; exact hL) | (simp only [zR]; omega) | omega)) only [zLit, zI_div, hI_fs, hI_us, zI_add, zI_sub, zI_mul, zI_neg, zI_lt, zI_eq, zI_ite, xbd_s, zI_nat, zld, zst, zbd, zB_0, zB_1, lenX_s, zup_at, xgd, cond_true, cond_false, and_self, and_true, true_and, false_and, and_false, or_self, or_false, false_or, if_true, if_false, ite_true, ite_false, reduceIte, reduceCtorEq, Nat.reduceEqDiff, Nat.reduceAdd, Nat.reduceMul, Int.reduceNeg, Int.reduceAdd, Int.reduceSub, Int.reduceMul, Int.reduceLT, Int.reduceLE, Int.reduceEq, Int.reduceDiv, Int.reduceMod, Int.reduceToNat, Int.toNat_zero, Int.toNat_one, Nat.reduceLeDiff, Nat.reduceLT, ite_not, not_true, not_false_eq_true, r11, q9] <;> omega) | omega))) | (with_reducible apply hs_t; (case h => (first | (simp (disch := (first | exact hz _ _ | exact hv _ | exact hL | assumption | (simp (disch := decide) only [zup_ne]; exact hL) | (simp only [zR]; omega) | omega)) only [zLit, zI_div, hI_fs, hI_us, zI_add, zI_sub, zI_mul, zI_neg, zI_lt, zI_eq, zI_ite, xbd_s, zI_nat, zld, zst, zbd, zB_0, zB_1, lenX_s, zup_at, xgd, cond_true, cond_false, and_self, and_true, true_and, false_and, and_false, or_self, or_false, false_or, if_true, if_false, ite_true, ite_false, reduceIte, reduceCtorEq, Nat.reduceEqDiff, Nat.reduceAdd, Nat.reduceMul, Int.reduceNeg, Int.reduceAdd, Int.reduceSub, Int.reduceMul, Int.reduceLT, Int.reduceLE, Int.reduceEq, Int.reduceDiv, Int.reduceMod, Int.reduceToNat, Int.toNat_zero, Int.toNat_one, Nat.reduceLeDiff, Nat.reduceLT, ite_not, not_true, not_false_eq_true, r11, q9] <;> omega) | omega))) | (with_reducible apply hs_b; (case h => (simp (disch := (first | exact hz _ _ | exact hv _ | exact hL | assumption | (simp (disch := decide) only [zup_ne]; exact hL) | (simp only [zR]; omega) | omega)) only [zLit, zI_div, hI_fs, hI_us, zI_add, zI_sub, zI_mul, zI_neg, zI_lt, zI_eq, zI_ite, xbd_s, zI_nat, zld, zst, zbd, zB_0, zB_1, lenX_s, zup_at, xgd, cond_true, cond_false, and_self, and_true, true_and, false_and, and_false, or_self, or_false, false_or, if_true, if_false, ite_true, ite_false, reduceIte, reduceCtorEq, Nat.reduceEqDiff, Nat.reduceAdd, Nat.reduceMul, Int.reduceNeg, Int.reduceAdd, Int.reduceSub, Int.reduceMul, Int.reduceLT, Int.reduceLE, Int.reduceEq, Int.reduceDiv, Int.reduceMod, Int.reduceToNat, Int.toNat_zero, Int.toNat_one, Nat.reduceLeDiff, Nat.reduceLT, ite_not, not_true, not_false_eq_true, r11, q9]; rfl)); try dsimp only) | (with_reducible apply hs_c <;> intro q9 <;> (try simp (disch := (first | exact hz _ _ | exact hv _ | exact hL | assumption | (simp (disch := decide) only [zup_ne]; exact hL) | (simp only [zR]; omega) | omega)) only [zLit, zI_div, hI_fs, hI_us, zI_add, zI_sub, zI_mul, zI_neg, zI_lt, zI_eq, zI_ite, xbd_s, zI_nat, zld, zst, zbd, zB_0, zB_1, lenX_s, zup_at, xgd, cond_true, cond_false, and_self, and_true, true_and, false_and, and_false, or_self, or_false, false_or, if_true, if_false, ite_true, ite_false, reduceIte, reduceCtorEq, Nat.reduceEqDiff, Nat.reduceAdd, Nat.reduceMul, Int.reduceNeg, Int.reduceAdd, Int.reduceSub, Int.reduceMul, Int.reduceLT, Int.reduceLE, Int.reduceEq, Int.reduceDiv, Int.reduceMod, Int.reduceToNat, Int.toNat_zero, Int.toNat_one, Nat.reduceLeDiff, Nat.reduceLT, ite_not, not_true, not_false_eq_true, r11, q9] at q9)))
      all_goals first | rfl | omega | (simp (maxSteps := 3000000) (disch := (first | exact hz _ _ | exact hv _ | exact hL | assumption | (simp (disch := decide) only [zup_ne]; exact hL) | (simp only [zR]; omega) | omega)) only [zLit, zI_div, hI_fs, hI_us, zI_add, zI_sub, zI_mul, zI_neg, zI_lt, zI_eq, zI_ite, xbd_s, zI_nat, zld, zst, zbd, zB_0, zB_1, lenX_s, zup_at, xgd, cond_true, cond_false, and_self, and_true, true_and, false_and, and_false, or_self, or_false, false_or, if_true, if_false, ite_true, ite_false, reduceIte, reduceCtorEq, Nat.reduceEqDiff, Nat.reduceAdd, Nat.reduceMul, Int.reduceNeg, Int.reduceAdd, Int.reduceSub, Int.reduceMul, Int.reduceLT, Int.reduceLE, Int.reduceEq, Int.reduceDiv, Int.reduceMod, Int.reduceToNat, Int.toNat_zero, Int.toNat_one, Nat.reduceLeDiff, Nat.reduceLT, ite_not, not_true, not_false_eq_true]; done) | (simp (maxSteps := 3000000) (disch := (first | exact hz _ _ | exact hv _ | exact hL | assumption | (simp (disch := decide) only [zup_ne]; exact hL) | (simp only [zR]; omega) | omega)) only [zLit, zI_div, hI_fs, hI_us, zI_add, zI_sub, zI_mul, zI_neg, zI_lt, zI_eq, zI_ite, xbd_s, zI_nat, zld, zst, zbd, zB_0, zB_1, lenX_s, zup_at, xgd, cond_true, cond_false, and_self, and_true, true_and, false_and, and_false, or_self, or_false, false_or, if_true, if_false, ite_true, ite_false, reduceIte, reduceCtorEq, Nat.reduceEqDiff, Nat.reduceAdd, Nat.reduceMul, Int.reduceNeg, Int.reduceAdd, Int.reduceSub, Int.reduceMul, Int.reduceLT, Int.reduceLE, Int.reduceEq, Int.reduceDiv, Int.reduceMod, Int.reduceToNat, Int.toNat_zero, Int.toNat_one, Nat.reduceLeDiff, Nat.reduceLT, ite_not, not_true, not_false_eq_true]; rfl)
    · rw [e_X12_bestPlan, show xF = 999999 + 1 from rfl, l_X12_bestPlan_0, show (999999 : Nat) = 999998 + 1 from rfl, l_X12_bestPlan_7]
      simp only [zLit, lenX_s, zI_nat h9r, zI_nat h8r, zld (show (0 : Int) ≤ 9 by omega), zld (show (0 : Int) ≤ 8 by omega), zI_neg, q9]
      rw [if_neg (by rw [zI_lt h8r h0r]; omega)]
      by_cases w : zI 0 < zI (z 101 8)
      · rw [if_pos w, if_neg (by rw [zI_lt h9r h0r]; omega), if_neg (by rw [zI_lt h0r h0r]; omega)]
      · rw [if_neg w]
  · refine xw_m (P := fun r z1 => r = spBestP (spAll (z 101)) (z 101 8).toNat 0 (-3) 0 ∧ Inv z1 ∧ z1 101 = z 101) ?_ ?_
    · rw [e_X11_bestPlan, show xF = 999999 + 1 from rfl, l_X11_bestPlan_0]
      simp only [hI_fs, r11, zLit, zI_neg]
      rw [if_neg (by rw [zI_eq (zR_s (by omega)) (zR_s (by omega))]; exact q9)]
      exact c_bestP_l 52 (z 101 8).toNat 0 (-3) 0 z hI0 rfl (by omega) (by omega) (Or.inl rfl) (by omega) 999999 (by omega)
    · intro r z1 hr hz1 ⟨e, inv, e1⟩
      rw [e_X12_bestPlan, show xF = 999999 + 1 from rfl, l_X12_bestPlan_0]
      simp only [zLit, zI_neg]
      refine xw_m (m_bestP_l 52 (v := z 101) (by omega) (z 101 8).toNat 0 (-3) 0 z1 inv e1 (by omega) (by omega) (Or.inl rfl) (by omega) 999999 (by omega)) ?_
      intro r2 z2 _ _ ⟨e2, inv2, _⟩
      exact ⟨by rw [e2, e], inv2⟩
