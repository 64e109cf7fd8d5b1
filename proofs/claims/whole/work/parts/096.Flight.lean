/-! PURE, part 26: flights in thought -/
theorem xbd_n (r : Int32 × xH) (f : Int32 → xH → xO) : xbd (some r) f = f r.1 r.2 := by rw [xbd_s]
def spOr (v : Int → Int) (c : crft) (a : Int) : Int := if mayC v c a then a else if mayC v c 4 then 4 else -1
def spPlanned (v : Int → Int) (p k : Int) : Int := if k < v (192 + 21 * p) then v (193 + 21 * p + k) else 4
def spGives (v : Int → Int) (s k : Int) : Int := if 0 ≤ s ∧ v (278 + 4 * s) ≤ k ∧ k < v (278 + 4 * s) + v (279 + 4 * s) then v (277 + 4 * s) else 0
def spMin99 (h : Int) : Int := if h < 99 then h else 99
def goC (v : Int → Int) (c : crft) (a g : Int) : crft := ((spAct v c a).1, (spAct v c a).2.1, (spAct v c a).2.2.1, spMin99 ((spAct v c a).2.2.2 + g))
theorem goC_ok {v : Int → Int} (hL : LandI v) {c : crft} (h : okC v c) {a g : Int} (hm : mayC v c a) (hg : 0 ≤ g) : okC v (goC v c a g) := by
  obtain ⟨h1, h2, h3, h4⟩ := okC_act hL h hm
  refine ⟨h1, h2, h3, ?_⟩
  show 0 ≤ spMin99 _ ∧ spMin99 _ ≤ 99
  unfold spMin99
  split <;> omega
theorem spOr_may {v : Int → Int} {c : crft} {a : Int} (h : 0 ≤ spOr v c a) : mayC v c (spOr v c a) := by
  unfold spOr at *
  split
  · rename_i q; exact q
  · split
    · rename_i q; exact q
    · rename_i q1 q2; rw [if_neg q1, if_neg q2] at h; omega
theorem spOr_dn {v : Int → Int} {c : crft} {a : Int} (h : c.2.2.2 ≤ v (24 + c.1)) : spOr v c a = -1 := by
  unfold spOr
  rw [if_neg (fun w => w.2.1 h), if_neg (fun w => w.2.1 h)]
theorem spOr_b {v : Int → Int} {c : crft} {a : Int} : spOr v c a = -1 ∨ (0 ≤ spOr v c a ∧ spOr v c a ≤ 8) := by
  unfold spOr
  split
  · rename_i q; right; exact q.1
  · split
    · right; omega
    · left; rfl
def traj (v : Int → Int) (ch : Int → crft → Int) (gv : Int → Int) (c0 : crft) : Nat → crft
  | 0 => c0
  | k + 1 => goC v (traj v ch gv c0 k) (ch k (traj v ch gv c0 k)) (gv k)
def endT (v : Int → Int) (ch : Int → crft → Int) (gv : Int → Int) (c0 : crft) : Nat → Nat → Nat
  | 0, k => k
  | m + 1, k => if ch k (traj v ch gv c0 k) < 0 then k else endT v ch gv c0 m (k + 1)
theorem endT_b {v : Int → Int} {ch : Int → crft → Int} {gv : Int → Int} {c0 : crft} : ∀ (m k : Nat), k ≤ endT v ch gv c0 m k ∧ endT v ch gv c0 m k ≤ k + m := by
  intro m
  induction m with
  | zero => intro k; exact ⟨Nat.le_refl _, Nat.le_refl _⟩
  | succ m ih =>
    intro k
    unfold endT
    split
    · omega
    · have := ih (k + 1); omega
theorem traj_ok {v : Int → Int} {ch : Int → crft → Int} {gv : Int → Int} {c0 : crft} (hL : LandI v) (h0 : okC v c0) (hg : ∀ k, 0 ≤ gv k) (hch : ∀ k c, 0 ≤ ch k c → mayC v c (ch k c)) : ∀ (m k : Nat), okC v (traj v ch gv c0 k) → okC v (traj v ch gv c0 (endT v ch gv c0 m k)) := by
  intro m
  induction m with
  | zero => intro k h; exact h
  | succ m ih =>
    intro k h
    unfold endT
    by_cases q : ch k (traj v ch gv c0 k) < 0
    · rw [if_pos q]; exact h
    · rw [if_neg q]
      exact ih (k + 1) (goC_ok hL h (hch _ _ (by omega)) (hg _))
/-- the model goes on -/
theorem m_goOnW (d : Nat) {z : zH} (hz : zRR z) (hL : LandI (z 101)) (hC : okC (z 101) (crM z)) {a g k : Int} (hm : mayC (z 101) (crM z) a) (hg : 0 ≤ g ∧ g ≤ 9) (hk : z 100 16 = k) (hk2 : 0 ≤ k ∧ k < 60) : xw (cM (d + 4) 195 [xR 28 100, xI (zI a), xI (zI g)] (hI z)) (fun _ z' => crM z' = goC (z 101) (crM z) a g ∧ z' 100 16 = k + 1 ∧ (∀ j, z' 108 j = if j = k then a else z 108 j) ∧ (∀ j, z' 109 j = if j = k then (goC (z 101) (crM z) a g).2.2.2 else z 109 j) ∧ fr [100, 108, 109] z z' ∧ ff [5, 6, 7, 8, 16] z z') := by
  have hok := okC_act hL hC hm
  have hok2 := goC_ok hL hC hm hg.1
  rw [e_X12_goOn]
  refine xw_k (m_actW _ hz hL hC hm) ?_
  intro r z1 hr hz1 ⟨e1, f1, g1⟩
  have k1 : z1 100 16 = k := (g1 16 rfl).trans hk
  have hz := hz1
  have e8 : z1 100 8 = (spAct (z 101) (crM z) a).2.2.2 := by rw [← e1]
  have hh := hok.2.2.2
  rw [← e8] at hh
  obtain ⟨w, hw⟩ : ∃ w, w = spMin99 (z1 100 8 + g) := ⟨_, rfl⟩
  have hwz : zR w := by rw [hw]; unfold spMin99; split <;> exact zR_s (by omega)
  have har : zR a := zR_s (by have := hm.1; omega)
  have hE : cM (d + 4) 195 [xR 28 100, xI (zI a), xI (zI g)] (hI z) = cM (d + 4) 195 [xR 28 100, xI (zI a), xI (zI g)] (hI z) := rfl
  refine xw_eq (r := 0) (z := zup (zup (zup (zup z1 100 8 w) 108 k a) 109 k w) 100 16 (k + 1)) ?_ (zR_s (by omega)) ?_ ⟨?_, ?_, ?_, ?_, ?_, ?_⟩
  · have hs : zR (z1 100 8 + g) := zR_s (by omega)
    have h99 : zR 99 := zR_s (by omega)
    have hmin : (if zI (z1 100 8 + g) < zI 99 then zI (z1 100 8 + g) else zI 99) = zI w := by rw [zI_ilt hs h99, hw]; rfl
    simp only [zLit, hI_fs, k1, zI_add, hmin]
    simp (maxSteps := 3000000) (disch := (first | exact hz _ _ | exact hv _ | exact hL | assumption | (simp (disch := decide) only [zup_ne]; exact hL) | (simp only [zR]; omega) | omega)) only [zLit, zI_div, hI_fs, hI_us, zI_add, zI_sub, zI_mul, zI_neg, zI_lt, zI_eq, zI_ite, xbd_s, zI_nat, zld, zst, zbd, zB_0, zB_1, lenX_s, zup_at, xgd, cond_true, cond_false, and_self, and_true, true_and, false_and, and_false, or_self, or_false, false_or, if_true, if_false, ite_true, ite_false, reduceIte, reduceCtorEq, Nat.reduceEqDiff, Nat.reduceAdd, Nat.reduceMul, Int.reduceNeg, Int.reduceAdd, Int.reduceSub, Int.reduceMul, Int.reduceLT, Int.reduceLE, Int.reduceEq, Int.reduceDiv, Int.reduceMod, Int.reduceToNat, Int.toNat_zero, Int.toNat_one, Nat.reduceLeDiff, Nat.reduceLT, ite_not, not_true, not_false_eq_true, k1]
  · exact zRR_up (zRR_up (zRR_up (zRR_up hz1 _ _ hwz) _ _ har) _ _ hwz) _ _ (zR_s (by omega))
  · simp only [crM, zup_at, and_self, and_true, true_and, and_false, false_and, if_true, if_false, reduceIte, Int.reduceEq, reduceCtorEq, Nat.reduceEqDiff]
    unfold goC
    rw [← e1, hw]
  · simp only [zup_at, and_self, and_true, true_and, if_true]
  · intro j
    simp only [zup_at, true_and, false_and, if_false, Nat.reduceEqDiff]
    rw [f1 108 rfl]
  · intro j
    simp only [zup_at, true_and, false_and, if_false, Nat.reduceEqDiff]
    rw [f1 109 rfl]
    have e : w = (goC (z 101) (crM z) a g).2.2.2 := by
      unfold goC
      rw [hw, e8]
    rw [e]
  · exact fr_up (fr_up (fr_up (fr_up (fr_mono f1 rfl) _ _ rfl) _ _ rfl) _ _ rfl) _ _ rfl
  · exact ff_up (ff_ne (ff_ne (ff_up (ff_mono g1 rfl) _ rfl) _ _ (by decide)) _ _ (by decide)) _ rfl
/-- the class goes on -/
theorem c_goW (d : Nat) {z : zH} (hz : zRR z) {v : Int → Int} (hR : LandR z v) (hL : LandI v) (hC : okC v (crC z 46)) (ht : 0 ≤ z 46 4 ∧ z 46 4 ≤ 300) {a g k : Int} (hm : mayC v (crC z 46) a) (hg : 0 ≤ g ∧ g ≤ 9) (hk : z 45 2 = k) (hk2 : 0 ≤ k ∧ k < 60) (h0 : z 47 0 = 30) (h1 : z 47 1 = 2) (h3 : z 47 3 = if k < 30 then k else 30) : xw (cM (d + 4) 19 [xR 19 45, xR 26 1, xI (zI a), xI (zI g)] (hI z)) (fun _ z' => crC z' 46 = goC v (crC z 46) a g ∧ z' 46 4 = z 46 4 + 1 ∧ z' 45 2 = k + 1 ∧ z' 47 0 = 30 ∧ z' 47 1 = 2 ∧ (z' 47 3 = if k + 1 < 30 then k + 1 else 30) ∧ (∀ j, z' 48 j = if k < 30 ∧ j = 2 * k then a else if k < 30 ∧ j = 2 * k + 1 then (goC v (crC z 46) a g).2.2.2 else z 48 j) ∧ fr [45, 46, 47, 48] z z') := by
  have hok := okC_act hL hC hm
  rw [e_X3_go]
  refine xw_k (c_moveW _ hz hR hL (o := 46) (Or.inr (by omega)) hC (by omega) hm) ?_
  intro r z1 hr hz1 ⟨e1, e4, f1, _⟩
  have e8 : z1 46 3 = (spAct v (crC z 46) a).2.2.2 := by rw [← e1]
  have hh := hok.2.2.2
  rw [← e8] at hh
  have k1 : z1 45 2 = k := by rw [f1 45 rfl]; exact hk
  obtain ⟨w, hw⟩ : ∃ w, w = spMin99 (z1 46 3 + g) := ⟨_, rfl⟩
  have hwe : w = (goC v (crC z 46) a g).2.2.2 := by
    unfold goC
    rw [hw, e8]
  have hwz : zR w := by rw [hw]; unfold spMin99; split <;> exact zR_s (by omega)
  have har : zR a := zR_s (by have := hm.1; omega)
  have hs : zR (z1 46 3 + g) := zR_s (by omega)
  have h99 : zR 99 := zR_s (by omega)
  have hmin : (if zI (z1 46 3 + g) < zI 99 then zI (z1 46 3 + g) else zI 99) = zI w := by rw [zI_ilt hs h99, hw]; rfl
  obtain ⟨H0, d0⟩ : ∃ H, H = zup (zup z1 46 3 w) 45 2 (k + 1) := ⟨_, rfl⟩
  have y0 : zRR H0 := by rw [d0]; exact zRR_up (zRR_up hz1 _ _ hwz) _ _ (zR_s (by omega))
  have h47 : H0 47 = z 47 := by rw [d0, zup_ne _ _ _ (by decide), zup_ne _ _ _ (by decide), f1 47 rfl]
  have h48 : H0 48 = z 48 := by rw [d0, zup_ne _ _ _ (by decide), zup_ne _ _ _ (by decide), f1 48 rfl]
  have hF0 : fr [45, 46, 47, 48] z H0 := by rw [d0]; exact fr_up (fr_up (fr_mono f1 rfl) _ _ rfl) _ _ rfl
  have c46 : H0 46 3 = w := by rw [d0, zup_ne _ _ _ (by decide), zup_at, if_pos ⟨rfl, rfl⟩]
  have cc : crC H0 46 = goC v (crC z 46) a g := by
    rw [d0]
    simp only [crC, zup_at, and_self, and_true, true_and, and_false, false_and, if_true, if_false, reduceIte, Int.reduceEq, reduceCtorEq, Nat.reduceEqDiff]
    unfold goC
    rw [← e1, hw]
  have c4 : H0 46 4 = z 46 4 + 1 := by
    rw [d0]
    simp only [zup_at, and_self, and_true, true_and, and_false, false_and, if_true, if_false, reduceIte, Int.reduceEq, reduceCtorEq, Nat.reduceEqDiff]
    exact e4
  have c45 : H0 45 2 = k + 1 := by rw [d0, zup_at, if_pos ⟨rfl, rfl⟩]
  have hstep : xup (xup (hI z1) 46 3 (zI w)) 45 2 (zI (k + 1)) = hI H0 := by rw [d0]; simp only [hI_us]
  simp only [zLit, hI_fs, zI_add, hmin, hI_us]
  simp only [zup_at, and_self, and_true, true_and, and_false, false_and, if_true, if_false, reduceIte, Int.reduceEq, reduceCtorEq, Nat.reduceEqDiff, k1]
  rw [← d0]
  by_cases q : k < 30
  · rw [if_pos q] at h3
    have co := c_rOpened (o := 47) (d + 2) y0 (by rw [h47]; omega)
    rw [h47, h3] at co
    obtain ⟨H1, d1⟩ : ∃ H, H = zup H0 47 3 (k + 1) := ⟨_, rfl⟩
    rw [← d1] at co
    have y1 : zRR H1 := by rw [d1]; exact zRR_up y0 _ _ (zR_s (by omega))
    have w1 : H1 47 1 = 2 := by rw [d1, zup_at, if_neg (by omega), h47]; exact h1
    have w3 : H1 47 3 = k + 1 := by rw [d1, zup_at, if_pos ⟨rfl, rfl⟩]
    have b1 := c_rBecome (o := 47) (u := a) (d + 1) y1 w1 (i := k) (k := 0) (n := 30) ⟨hk2.1, by omega⟩ (by omega) (by omega) (by simp only [Nat.reduceAdd, lenX_s]; omega) (by omega)
    obtain ⟨H2, d2⟩ : ∃ H, H = zup H1 (47 + 1) (k * 2 + 0) a := ⟨_, rfl⟩
    rw [← d2] at b1
    have y2 : zRR H2 := by rw [d2]; exact zRR_up y1 _ _ har
    have w1b : H2 47 1 = 2 := by rw [d2, zup_ne _ _ _ (by decide)]; exact w1
    have w3b : H2 47 3 = k + 1 := by rw [d2, zup_ne _ _ _ (by decide)]; exact w3
    have c46b : H2 46 3 = w := by rw [d2, zup_ne _ _ _ (by decide), d1, zup_ne _ _ _ (by decide)]; exact c46
    have b2 := c_rBecome (o := 47) (u := w) (d + 1) y2 w1b (i := k) (k := 1) (n := 30) ⟨hk2.1, by omega⟩ (by omega) (by omega) (by simp only [Nat.reduceAdd, lenX_s]; omega) (by omega)
    obtain ⟨H3, d3⟩ : ∃ H, H = zup H2 (47 + 1) (k * 2 + 1) w := ⟨_, rfl⟩
    rw [← d3] at b2
    have y3 : zRR H3 := by rw [d3]; exact zRR_up y2 _ _ hwz
    have g46 : H3 46 = H0 46 := by rw [d3, zup_ne _ _ _ (by decide), d2, zup_ne _ _ _ (by decide), d1, zup_ne _ _ _ (by decide)]
    have g45 : H3 45 = H0 45 := by rw [d3, zup_ne _ _ _ (by decide), d2, zup_ne _ _ _ (by decide), d1, zup_ne _ _ _ (by decide)]
    have g47 : ∀ j, j ≠ 3 → H3 47 j = z 47 j := by intro j hj; rw [d3, zup_ne _ _ _ (by decide), d2, zup_ne _ _ _ (by decide), d1, zup_at, if_neg (by omega), h47]
    simp only [co, xbd_n]
    simp only [b1, xbd_n]
    simp only [hI_fs, c46b]
    simp only [b2, xbd_n]
    refine xw_ret (zR_s (by omega)) y3 ⟨?_, ?_, ?_, ?_, ?_, ?_, ?_, ?_⟩
    · simp only [crC, g46]; exact cc
    · rw [g46]; exact c4
    · rw [g45]; exact c45
    · rw [g47 0 (by omega)]; exact h0
    · rw [g47 1 (by omega)]; exact h1
    · rw [d3, zup_ne _ _ _ (by decide), w3b]
      split <;> omega
    · intro j
      rw [d3, zup_at, d2, zup_at, d1, zup_ne _ _ _ (by decide), h48, ← hwe]
      simp only [true_and, Nat.reduceAdd]
      by_cases j1 : j = 2 * k
      · rw [if_neg (by omega), if_pos (by omega), if_pos ⟨q, j1⟩]
      · by_cases j2 : j = 2 * k + 1
        · rw [if_pos (by omega), if_neg (by omega), if_pos ⟨q, j2⟩]
        · rw [if_neg (by omega), if_neg (by omega), if_neg (by omega), if_neg (by omega)]
    · rw [d3, d2, d1]
      exact fr_up (fr_up (fr_up hF0 _ _ rfl) _ _ rfl) _ _ rfl
  · rw [if_neg q] at h3
    have co := c_rFull (o := 47) (d + 2) y0 (by rw [h47]; omega)
    have hno : ¬ (0 ≤ (-2 : Int) ∧ (-2 : Int) < H0 47 3) := by omega
    have b1 := fun x u => c_rNot (d + 1) y0 (o := 47) (i := -2) (k := x) (u := u) (zR_s (by omega)) hno
    simp only [co, xbd_n]
    simp only [b1, xbd_n]
    refine xw_ret (zR_s (by omega)) y0 ⟨cc, c4, c45, ?_, ?_, ?_, ?_, hF0⟩
    · rw [h47]; exact h0
    · rw [h47]; exact h1
    · rw [h47, h3, if_neg (by omega)]
    · intro j
      rw [h48, if_neg (by omega), if_neg (by omega)]
