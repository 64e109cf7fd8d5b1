/-! PURE, part 72: the class reads a COND, whole -/
theorem c_cmpT (d : Nat) {K W : Nat → Int} {B : Nat → Int} {m : Nat} (h : TKO K W B m) (hB : ∀ j, B j ≤ 240) {cnt : Int} {z z1 : zH} {i : Nat} {f : Int} (hv : vOkB K W i = true) {s : Int} (hs : s = sgn K W (i + 1)) (s0 : 0 ≤ s) (hP1 : PreC K W B m cnt z1 (i + 1) f) (hF : FC cnt f z z1) (hbi : 2 * f ≤ B i) : xw (xbd (cM (d + 1) 77 [xR 25 55, xI (zI (((i + 1 : Nat) : Int) + 1))] (hI z1)) fun r13 h14 => xbd (cM (d + 1) 84 [xR 25 55] h14) fun r15 h16 => if r15 = zI 0 then (some (zI 0, h16)) else (xbd (cM (d + 1) 85 [xR 25 55] h16) fun r17 h18 => xbd (cM (d + 1) 25 [xI (zI s), xI (zI (vVl K W i)), xI r17] h18) fun r19 h20 => xbd (cM (d + 1) 24 [xR 20 57, xI r19] h20) fun r21 h22 => xbd (cM (d + 1) 77 [xR 25 55, xI (h22 55 7 + zI 1)] h22) fun r23 h24 => some (zI 1, h24))) (PostC K W cnt f (pCmp K W i) z) := by
  have h0r : zR 0 := zR_s (by omega)
  have h1r : zR 1 := zR_s (by omega)
  have sb := sgn_b K W (i + 1)
  have k3 := sb.2.2 (by omega)
  have i1 := (h.1 (i + 1)).mpr (by omega)
  have bi1 := h.2.1 (i + 1) i1
  rw [show i + 1 + 1 = i + 2 from rfl] at bi1
  have i0 := (h.1 i).mpr (vOk_0 ((vOkB_i K W i).mp hv))
  have bi0 := h.2.1 i i0
  refine xw_k (c_lookN d h hP1 (by omega)) ?_
  intro r2 z2 _ hz2 ⟨P2, F2, _⟩
  have FF2 := FC_tr hF F2 (Int.le_refl _)
  have cv := fun d => c_isVal d hz2 P2.2.2.1
  simp only [cv, xbd_n]
  by_cases x : vOkB K W (i + 2) = true
  · have er : pCmp K W i = (true, i + 3, [cdC s (vVl K W i) (vVl K W (i + 2))], [cdM s (vVl K W i) (vVl K W (i + 2))]) := by
      unfold pCmp
      rw [if_pos hv, if_pos (by omega), if_pos x, hs]
    rw [if_pos (show vOkB K W (i + 1 + 1) = true from x), if_neg (by decide)]
    have vo := (vOkB_i K W (i + 2)).mp x
    have cva := fun d => c_valV d hz2 P2.2.2.1 vo
    have va := vVl_b h ((vOkB_i K W i).mp hv)
    have vb := vVl_b h vo
    have i2 := (h.1 (i + 2)).mpr (vOk_0 vo)
    simp only [cva, xbd_n, e_X4_coded, zLit, zI_mul, zI_add]
    rw [show 3 + (s * 1024 + vVl K W i) * 1024 + vVl K W (i + 1 + 1) = cdC s (vVl K W i) (vVl K W (i + 2)) from rfl]
    have cr : zR (cdC s (vVl K W i) (vVl K W (i + 2))) := by unfold cdC; simp only [zR]; omega
    obtain ⟨q1, q2, q3, q4, q5, q6, q7, q8, q9⟩ := P2
    refine xw_k (c_haddN d h hB ⟨hz2, q3, q5, q6, q7, q8, q9⟩ cr) ?_
    intro r3 z3 _ hz3 ⟨a1, a2, a3, a4⟩
    have P3 : PreC K W B m cnt z3 (i + 2) (f + 1) := ⟨hz3, CTK_t q2 a4, a1, q4, by rw [a4.1 57 rfl]; exact q5, q6, a2, by omega, by omega⟩
    have FF3 := FC_tr FF2 a4 (Int.le_refl _)
    have e7 : z3 55 7 = ((i + 2 : Nat) : Int) := a1.1
    simp only [hI_fs, e7, zI_add]
    refine xw_k (c_lookN d h P3 (vOk_0 vo)) ?_
    intro r4 z4 _ hz4 ⟨P4, F4, e60⟩
    rw [er]
    refine xw_ret h1r hz4 ⟨rfl, P4.2.2.1, fun _ => ⟨P4.2.2.2.2.2.2.1, ?_, trivial⟩, FC_tr FF3 F4 (by omega)⟩
    rw [e60]
    exact a3
  · have er : pCmp K W i = (false, i + 2, [], []) := by
      unfold pCmp
      rw [if_pos hv, if_pos (by omega), if_neg x]
    rw [if_neg (show ¬ vOkB K W (i + 1 + 1) = true from x), if_pos rfl, er]
    exact xw_ret h0r hz2 ⟨rfl, P2.2.2.1, (fun y => by cases y), FF2⟩
theorem c_cmp (d : Nat) {K W : Nat → Int} {B : Nat → Int} {m : Nat} (h : TKO K W B m) (hB : ∀ j, B j ≤ 240) {cnt : Int} {z : zH} {i : Nat} {f : Int} (hP : PreC K W B m cnt z i f) : xw (cM (d + 2) 83 [xR 25 55] (hI z)) (PostC K W cnt f (pCmp K W i) z) := by
  have h0r : zR 0 := zR_s (by omega)
  have hz := hP.1
  have cv := fun d => c_isVal d hz hP.2.2.1
  have hbi := hP.2.2.2.2.2.2.2.2
  rw [e_X9_isComparison]
  simp only [zLit, cv, xbd_n]
  by_cases x : vOkB K W i = true
  · have vo := (vOkB_i K W i).mp x
    have cva := fun d => c_valV d hz hP.2.2.1 vo
    rw [if_pos x, if_neg (by decide)]
    have e7 : z 55 7 = (i : Int) := hP.2.2.1.1
    simp only [cva, xbd_n, hI_fs, e7, zI_add]
    refine xw_k (c_lookN d h hP (vOk_0 vo)) ?_
    intro r1 z1 _ hz1 ⟨P1, F1, _⟩
    have e71 : z1 55 7 = ((i + 1 : Nat) : Int) := P1.2.2.1.1
    have b1 := fun d => c_isByte d hz1 P1.2.2.1 (w := 60) (zR_s (by omega))
    have b2 := fun d => c_isByte d hz1 P1.2.2.1 (w := 61) (zR_s (by omega))
    have b3 := fun d => c_isByte d hz1 P1.2.2.1 (w := 62) (zR_s (by omega))
    simp only [b1, xbd_n, zB_0, hI_fs, e71, zI_add]
    by_cases q1 : sgA K W (i + 1) 60
    · rw [if_neg (fun y => y q1)]
      exact c_cmpT d h hB x (s := 0) (by unfold sgn; rw [if_pos q1]) (by omega) P1 F1 hbi
    · rw [if_pos q1]
      simp only [b2, xbd_n, zB_0, hI_fs, e71, zI_add]
      by_cases q2 : sgA K W (i + 1) 61
      · rw [if_neg (fun y => y q2)]
        exact c_cmpT d h hB x (s := 1) (by unfold sgn; rw [if_neg q1, if_pos q2]) (by omega) P1 F1 hbi
      · rw [if_pos q2]
        simp only [b3, xbd_n, zB_0, hI_fs, e71, zI_add]
        by_cases q3 : sgA K W (i + 1) 62
        · rw [if_neg (fun y => y q3)]
          exact c_cmpT d h hB x (s := 2) (by unfold sgn; rw [if_neg q1, if_neg q2, if_pos q3]) (by omega) P1 F1 hbi
        · rw [if_pos q3]
          have er : pCmp K W i = (false, i + 1, [], []) := by
            unfold pCmp
            rw [if_pos x, if_neg (by unfold sgn; rw [if_neg q1, if_neg q2, if_neg q3]; omega)]
          rw [er]
          exact xw_ret h0r hz1 ⟨rfl, P1.2.2.1, (fun y => by cases y), F1⟩
  · rw [if_neg x, if_pos rfl]
    have er : pCmp K W i = (false, i, [], []) := by
      unfold pCmp
      rw [if_neg x]
    rw [er]
    exact xw_ret h0r hz ⟨rfl, hP.2.2.1, (fun y => by cases y), FC_rf _ _ _⟩
/-- behind what was negated -/
theorem c_oneT (d : Nat) {K W : Nat → Int} {B : Nat → Int} {m : Nat} (h : TKO K W B m) (hB : ∀ j, B j ≤ 240) {cnt : Int} {z0 z : zH} {j : Nat} {f : Int} (hP : PreC K W B m cnt z j f) (hF : FC cnt f z0 z) {o : xO} {r2 : PR} (ho : xw o (PostC K W cnt f r2 z)) (hb : PB B m j r2) {k : Nat} : xw (xbd o fun r5 h6 => if r5 = zI 0 then (bif xb01 r5 then some (r5, h6) else none) else (if zI ((k % 2 : Nat) : Int) = zI 0 then (bif xb01 r5 then some (r5, h6) else none) else (xbd (cM (d + 1) 24 [xR 20 57, xI (zI 0)] h6) fun r7 h8 => bif xb01 r5 then some (r5, h8) else none))) (PostC K W cnt f (r2.1, r2.2.1, r2.2.2.1 ++ (if k % 2 = 1 then [0] else []), r2.2.2.2 ++ List.replicate k (-1)) z0) := by
  have h0r : zR 0 := zR_s (by omega)
  have h1r : zR 1 := zR_s (by omega)
  refine xw_k ho ?_
  intro rv z1 hr1 hz1 hp
  have hp0 := hp
  obtain ⟨p1, p2, p3, p4⟩ := hp
  subst p1
  have FF := FC_tr hF p4 (Int.le_refl _)
  by_cases q : r2.1 = true
  · have P1 := PreC_p hP hp0 hb q hz1
    obtain ⟨p5, p6⟩ := p3 q
    rw [if_pos q, if_neg (by decide)]
    by_cases e : k % 2 = 1
    · rw [e, if_neg (by decide)]
      obtain ⟨q1, q2, q3, q4, q5, q6, q7, q8, q9⟩ := P1
      refine xw_k (c_haddN d h hB ⟨hz1, q3, q5, q6, q7, q8, q9⟩ h0r) ?_
      intro r3 z3 _ hz3 ⟨a1, a2, a3, a4⟩
      rw [xbc xb1]
      refine xw_ret h1r hz3 ⟨by rw [if_pos q], a1, fun _ => ⟨?_, ?_⟩, FC_tr FF a4 (by omega)⟩
      · simp only [List.length_append, List.length_cons, List.length_nil, if_true]
        rw [a2]
        omega
      · refine has_a _ _ _ (has_t _ _ (fun x x0 x1 => a4.2.2.2 x (by omega)) p6) ?_
        rw [if_pos rfl]
        exact ⟨a3, trivial⟩
    · rw [show k % 2 = 0 by omega, if_pos (show zI ((0 : Nat) : Int) = zI 0 from rfl), xbc xb1]
      refine xw_ret h1r hz1 ⟨by rw [if_pos q], p2, fun _ => ⟨?_, ?_⟩, FF⟩
      · rw [if_neg (by omega), List.append_nil]; exact p5
      · rw [if_neg (by omega), List.append_nil]; exact p6
  · rw [if_neg q, if_pos rfl, xbc xb0]
    exact xw_ret h0r hz1 ⟨by rw [if_neg q], p2, fun y => absurd y q, FF⟩
theorem c_one_l (D : Nat) {K W : Nat → Int} {B : Nat → Int} {m : Nat} (h : TKO K W B m) (hB : ∀ j, B j ≤ 240) {cnt : Int} {op : Int} {b : Nat → PR} (hb : ∀ (z : zH) (j : Nat) (f : Int), PreC K W B m cnt z j f → sgA K W j 40 → xw (cM (D + 2) 82 [xR 25 55, xI (zI op)] (hI z)) (PostC K W cnt f (b j) z)) (hbP : ∀ j, sgA K W j 40 → PB B m j (b j)) {f : Int} {z0 : zH} {i0 : Nat} {k0 : Nat} (hk0 : nots K W 240 i0 = k0) : ∀ (g : Nat) (k : Nat) (z : zH), k + g = 240 → PreC K W B m cnt z (i0 + k) f → FC cnt f z0 z → k + nots K W g (i0 + k) = k0 → ∀ N, g < N → xw (r_X9_isOne (D + 2) N 4 [some (xR 25 55), some (xI (zI op)), some (xI (zI ((k % 2 : Nat) : Int))), some (xI (zI (k : Int)))] [] (hI z)) (PostC K W cnt f (pOne K W b i0) z0) := by
  have h0r : zR 0 := zR_s (by omega)
  have tail : ∀ (k : Nat) (z : zH), PreC K W B m cnt z (i0 + k) f → FC cnt f z0 z → k = k0 → xw (xbd (cM (D + 2) 87 [xR 25 55, xI (zI 40)] (hI z)) fun r3 h4 => if r3 = zI 0 then (xbd (cM (D + 2) 83 [xR 25 55] h4) fun r5 h6 => if r5 = zI 0 then (bif xb01 r5 then some (r5, h6) else none) else (if zI ((k % 2 : Nat) : Int) = zI 0 then (bif xb01 r5 then some (r5, h6) else none) else (xbd (cM (D + 2) 24 [xR 20 57, xI (zI 0)] h6) fun r7 h8 => bif xb01 r5 then some (r5, h8) else none))) else (xbd (cM (D + 2) 82 [xR 25 55, xI (zI op)] h4) fun r9 h10 => if r9 = zI 0 then (bif xb01 r9 then some (r9, h10) else none) else (if zI ((k % 2 : Nat) : Int) = zI 0 then (bif xb01 r9 then some (r9, h10) else none) else (xbd (cM (D + 2) 24 [xR 20 57, xI (zI 0)] h10) fun r11 h12 => bif xb01 r9 then some (r9, h12) else none)))) (PostC K W cnt f (pOne K W b i0) z0) := by
    intro k z hP hF hk
    have cb := fun d => c_isByte d hP.1 hP.2.2.1 (w := 40) (zR_s (by omega))
    have e : pOne K W b i0 = ((pOn2 K W b (i0 + k)).1, (pOn2 K W b (i0 + k)).2.1, (pOn2 K W b (i0 + k)).2.2.1 ++ (if k % 2 = 1 then [0] else []), (pOn2 K W b (i0 + k)).2.2.2 ++ List.replicate k (-1)) := by
      unfold pOne
      rw [hk0, ← hk]
    rw [e]
    simp only [cb, xbd_n, zB_0]
    by_cases q : sgA K W (i0 + k) 40
    · rw [if_neg (fun y => y q)]
      have e2 : pOn2 K W b (i0 + k) = b (i0 + k) := by unfold pOn2; rw [if_pos q]
      rw [e2]
      exact c_oneT (D + 1) h hB hP hF (hb z _ f hP q) (hbP _ q)
    · rw [if_pos q]
      have e2 : pOn2 K W b (i0 + k) = pCmp K W (i0 + k) := by unfold pOn2; rw [if_neg q]
      rw [e2]
      exact c_oneT (D + 1) h hB hP hF (c_cmp D h hB hP) (PB_cmp h hP.2.2.2.1)
  intro g
  induction g with
  | zero =>
    intro k z hk hP hF hn N hN
    obtain ⟨N, rfl⟩ := Nat.exists_eq_succ_of_ne_zero (show N ≠ 0 by omega)
    have T := tail k z hP hF (by unfold nots at hn; omega)
    rw [l_X9_isOne_4]
    simp only [zLit]
    rw [if_neg (by rw [zI_lt (zR_s (by omega)) (zR_s (by omega))]; omega)]
    exact T
  | succ g ih =>
    intro k z hk hP hF hn N hN
    obtain ⟨N, rfl⟩ := Nat.exists_eq_succ_of_ne_zero (show N ≠ 0 by omega)
    have cw := fun d => c_isWord d hP.1 hP.2.2.1 (w := 7) (zR_s (by omega))
    rw [l_X9_isOne_4]
    simp only [zLit, zI_add]
    rw [if_pos (by rw [zI_lt (zR_s (by omega)) (zR_s (by omega))]; omega)]
    simp only [cw, xbd_n, zB_0]
    unfold nots at hn
    by_cases q : wdA K W (i0 + k) 7
    · rw [if_pos q] at hn
      rw [if_neg (fun y => y q)]
      have e7 : z 55 7 = ((i0 + k : Nat) : Int) := hP.2.2.1.1
      simp only [hI_fs, e7, zI_add]
      have nx : ∀ x : Int, x = (((k + 1) % 2 : Nat) : Int) → xw (xbd (cM (D + 2) 77 [xR 25 55, xI (zI (((i0 + k : Nat) : Int) + 1))] (hI z)) fun r13 h14 => r_X9_isOne (D + 2) N 4 [some (xR 25 55), some (xI (zI op)), some (xI (zI x)), some (xI (zI ((k : Int) + 1)))] [] h14) (PostC K W cnt f (pOne K W b i0) z0) := by
        intro x hx
        subst hx
        refine xw_k (c_lookN (D + 1) h hP (by have := q.1; omega)) ?_
        intro r1 z1 _ hz1 ⟨P1, F1, _⟩
        rw [show ((k : Int) + 1) = ((k + 1 : Nat) : Int) by omega]
        exact ih (k + 1) z1 (by omega) P1 (FC_tr hF F1 (Int.le_refl _)) (by rw [show i0 + (k + 1) = i0 + k + 1 by omega]; omega) N (by omega)
      by_cases e : k % 2 = 0
      · rw [e, if_pos (show zI ((0 : Nat) : Int) = zI 0 from rfl)]
        exact nx 1 (by omega)
      · rw [show k % 2 = 1 by omega, if_neg (by decide)]
        exact nx 0 (by omega)
    · rw [if_neg q] at hn
      rw [if_pos q]
      exact tail k z hP hF (by omega)
theorem c_one (D : Nat) {K W : Nat → Int} {B : Nat → Int} {m : Nat} (h : TKO K W B m) (hB : ∀ j, B j ≤ 240) {cnt : Int} {op : Int} {b : Nat → PR} (hb : ∀ (z : zH) (j : Nat) (f : Int), PreC K W B m cnt z j f → sgA K W j 40 → xw (cM (D + 2) 82 [xR 25 55, xI (zI op)] (hI z)) (PostC K W cnt f (b j) z)) (hbP : ∀ j, sgA K W j 40 → PB B m j (b j)) (z : zH) (i : Nat) (f : Int) (hP : PreC K W B m cnt z i f) : xw (cM (D + 3) 81 [xR 25 55, xI (zI op)] (hI z)) (PostC K W cnt f (pOne K W b i) z) := by
  rw [e_X9_isOne, show xF = 999999 + 1 from rfl, l_X9_isOne_0]
  simp only [zLit]
  exact c_one_l D h hB hb hbP (i0 := i) rfl 240 0 z (by omega) hP (FC_rf _ _ _) (by simp) 999999 (by omega)
theorem c_all_l (D : Nat) {K W : Nat → Int} {B : Nat → Int} {m : Nat} (h : TKO K W B m) (hB : ∀ j, B j ≤ 240) {cnt : Int} {op : Int} {o : Nat → PR} (ho : ∀ (z : zH) (j : Nat) (f : Int), PreC K W B m cnt z j f → xw (cM (D + 1) 81 [xR 25 55, xI (zI op)] (hI z)) (PostC K W cnt f (o j) z)) (hoP : ∀ j, j ≤ m → PB B m j (o j)) {f0 : Int} {z0 : zH} (mm : Int) : ∀ (g i : Nat) (cc mc : List Int) (z : zH), g ≤ 240 → PreC K W B m cnt z i (f0 + cc.length) → has (z 60) f0 cc → FC cnt f0 z0 z → 0 ≤ f0 → ∀ N, g < N → xw (r_X9_isAll (D + 1) N 12 [some (xR 25 55), some (xI (zI op)), some (xI (zI ((240 - g : Nat) : Int)))] [] (hI z)) (PostC K W cnt f0 (joL K W o 6 1 mm g i cc mc) z0) := by
  have h0r : zR 0 := zR_s (by omega)
  have h1r : zR 1 := zR_s (by omega)
  intro g
  induction g with
  | zero =>
    intro i cc mc z hg hP hh hF f00 N hN
    obtain ⟨N, rfl⟩ := Nat.exists_eq_succ_of_ne_zero (show N ≠ 0 by omega)
    rw [l_X9_isAll_12]
    simp only [zLit]
    rw [if_neg (by rw [zI_lt (zR_s (by omega)) (zR_s (by omega))]; omega)]
    exact xw_ret h1r hP.1 ⟨rfl, hP.2.2.1, fun _ => ⟨hP.2.2.2.2.2.2.1, hh⟩, hF⟩
  | succ g ih =>
    intro i cc mc z hg hP hh hF f00 N hN
    obtain ⟨N, rfl⟩ := Nat.exists_eq_succ_of_ne_zero (show N ≠ 0 by omega)
    have cw := fun d => c_isWord d hP.1 hP.2.2.1 (w := 6) (zR_s (by omega))
    rw [l_X9_isAll_12]
    simp only [zLit, zI_add]
    rw [if_pos (by rw [zI_lt (zR_s (by omega)) (zR_s (by omega))]; omega)]
    simp only [cw, xbd_n, zB_0]
    unfold joL
    by_cases q : wdA K W i 6
    · rw [if_neg (fun y => y q), if_pos q]
      have e7 : z 55 7 = (i : Int) := hP.2.2.1.1
      have im := (h.1 i).mpr (by have := q.1; omega)
      have bb := h.2.2.1 i q.1 (by have := q.2; omega) (by have := q.2; omega)
      simp only [hI_fs, e7, zI_add]
      refine xw_k (c_lookN D h hP (by have := q.1; omega)) ?_
      intro r1 z1 _ hz1 ⟨P1, F1, e60⟩
      refine xw_k (ho z1 (i + 1) _ P1) ?_
      intro rv z2 hr2 hz2 hp
      have hp0 := hp
      have pb := hoP (i + 1) (by omega)
      obtain ⟨p1, p2, p3, p4⟩ := hp
      subst p1
      have FF2 := FC_tr (FC_tr hF F1 (by omega)) p4 (by omega)
      by_cases x : (o (i + 1)).1 = true
      · have P2 := PreC_p P1 hp0 pb x hz2
        have pl := pb.2.2 x
        obtain ⟨p5, p6⟩ := p3 x
        rw [if_pos x, if_neg (by decide), if_pos x]
        obtain ⟨q1, q2, q3, q4, q5, q6, q7, q8, q9⟩ := P2
        refine xw_k (c_haddN D h hB ⟨hz2, q3, q5, q6, q7, q8, q9⟩ (x := 1) (zR_s (by omega))) ?_
        intro r3 z3 _ hz3 ⟨a1, a2, a3, a4⟩
        have k9 := hP.2.2.2.2.2.2.2.2
        have el : f0 + ((cc ++ ((o (i + 1)).2.2.1 ++ [1])).length : Int) = f0 + cc.length + (o (i + 1)).2.2.1.length + 1 := by
          simp only [List.length_append, List.length_cons, List.length_nil]
          omega
        have eg : (((240 - (g + 1) : Nat) : Int) + 1) = ((240 - g : Nat) : Int) := by omega
        rw [eg]
        refine ih _ _ _ z3 (by omega) ?_ ?_ (FC_tr FF2 a4 (by omega)) f00 N (by omega)
        · rw [el]
          exact ⟨hz3, CTK_t q2 a4, a1, q4, by rw [a4.1 57 rfl]; exact q5, q6, a2, by omega, by omega⟩
        · refine has_a _ _ _ (has_t _ _ (fun y y0 y1 => ?_) hh) (has_a _ _ _ (has_t _ _ (fun y y0 y1 => a4.2.2.2 y (by omega)) p6) ⟨a3, trivial⟩)
          rw [a4.2.2.2 y (by omega), p4.2.2.2 y (by omega), e60]
      · rw [if_neg x, if_pos rfl, if_neg x]
        exact xw_ret h0r hz2 ⟨rfl, p2, (fun y => by cases y), FF2⟩
    · rw [if_pos q, if_neg q]
      exact xw_ret h1r hP.1 ⟨rfl, hP.2.2.1, fun _ => ⟨hP.2.2.2.2.2.2.1, hh⟩, hF⟩
theorem c_all (D : Nat) {K W : Nat → Int} {B : Nat → Int} {m : Nat} (h : TKO K W B m) (hB : ∀ j, B j ≤ 240) {cnt : Int} {op : Int} {o : Nat → PR} (ho : ∀ (z : zH) (j : Nat) (f : Int), PreC K W B m cnt z j f → xw (cM (D + 1) 81 [xR 25 55, xI (zI op)] (hI z)) (PostC K W cnt f (o j) z)) (hoP : ∀ j, j ≤ m → PB B m j (o j)) (mm : Int) (z : zH) (i : Nat) (f : Int) (hP : PreC K W B m cnt z i f) : xw (cM (D + 2) 80 [xR 25 55, xI (zI op)] (hI z)) (PostC K W cnt f (pJoin K W o 6 1 mm i) z) := by
  have h0r : zR 0 := zR_s (by omega)
  rw [e_X9_isAll, show xF = 999999 + 1 from rfl, l_X9_isAll_0]
  simp only [zLit]
  refine xw_k (ho z i f hP) ?_
  intro rv z1 _ hz1 hp
  have hp0 := hp
  obtain ⟨p1, p2, p3, p4⟩ := hp
  subst p1
  unfold pJoin
  by_cases x : (o i).1 = true
  · have P1 := PreC_p hP hp0 (hoP i hP.2.2.2.1) x hz1
    rw [if_pos x, if_neg (by decide), if_pos x]
    exact c_all_l D h hB ho hoP mm 240 _ _ _ z1 (by omega) P1 (p3 x).2 p4 hP.2.2.2.2.2.2.2.1 999999 (by omega)
  · rw [if_neg x, if_pos rfl, if_neg x]
    exact xw_ret h0r hz1 ⟨rfl, p2, (fun y => by cases y), p4⟩
theorem c_cond_l (D : Nat) {K W : Nat → Int} {B : Nat → Int} {m : Nat} (h : TKO K W B m) (hB : ∀ j, B j ≤ 240) {cnt : Int} {op : Int} {o : Nat → PR} (ho : ∀ (z : zH) (j : Nat) (f : Int), PreC K W B m cnt z j f → xw (cM (D + 1) 80 [xR 25 55, xI (zI op)] (hI z)) (PostC K W cnt f (o j) z)) (hoP : ∀ j, j ≤ m → PB B m j (o j)) {f0 : Int} {z0 : zH} (mm : Int) : ∀ (g i : Nat) (cc mc : List Int) (z : zH), g ≤ 240 → PreC K W B m cnt z i (f0 + cc.length) → has (z 60) f0 cc → FC cnt f0 z0 z → 0 ≤ f0 → ∀ N, g < N → xw (r_X9_isCond (D + 1) N 12 [some (xR 25 55), some (xI (zI op)), some (xI (zI ((240 - g : Nat) : Int)))] [] (hI z)) (PostC K W cnt f0 (joL K W o 5 2 mm g i cc mc) z0) := by
  have h0r : zR 0 := zR_s (by omega)
  have h1r : zR 1 := zR_s (by omega)
  intro g
  induction g with
  | zero =>
    intro i cc mc z hg hP hh hF f00 N hN
    obtain ⟨N, rfl⟩ := Nat.exists_eq_succ_of_ne_zero (show N ≠ 0 by omega)
    rw [l_X9_isCond_12]
    simp only [zLit]
    rw [if_neg (by rw [zI_lt (zR_s (by omega)) (zR_s (by omega))]; omega)]
    exact xw_ret h1r hP.1 ⟨rfl, hP.2.2.1, fun _ => ⟨hP.2.2.2.2.2.2.1, hh⟩, hF⟩
  | succ g ih =>
    intro i cc mc z hg hP hh hF f00 N hN
    obtain ⟨N, rfl⟩ := Nat.exists_eq_succ_of_ne_zero (show N ≠ 0 by omega)
    have cw := fun d => c_isWord d hP.1 hP.2.2.1 (w := 5) (zR_s (by omega))
    rw [l_X9_isCond_12]
    simp only [zLit, zI_add]
    rw [if_pos (by rw [zI_lt (zR_s (by omega)) (zR_s (by omega))]; omega)]
    simp only [cw, xbd_n, zB_0]
    unfold joL
    by_cases q : wdA K W i 5
    · rw [if_neg (fun y => y q), if_pos q]
      have e7 : z 55 7 = (i : Int) := hP.2.2.1.1
      have im := (h.1 i).mpr (by have := q.1; omega)
      have bb := h.2.2.1 i q.1 (by have := q.2; omega) (by have := q.2; omega)
      simp only [hI_fs, e7, zI_add]
      refine xw_k (c_lookN D h hP (by have := q.1; omega)) ?_
      intro r1 z1 _ hz1 ⟨P1, F1, e60⟩
      refine xw_k (ho z1 (i + 1) _ P1) ?_
      intro rv z2 hr2 hz2 hp
      have hp0 := hp
      have pb := hoP (i + 1) (by omega)
      obtain ⟨p1, p2, p3, p4⟩ := hp
      subst p1
      have FF2 := FC_tr (FC_tr hF F1 (by omega)) p4 (by omega)
      by_cases x : (o (i + 1)).1 = true
      · have P2 := PreC_p P1 hp0 pb x hz2
        have pl := pb.2.2 x
        obtain ⟨p5, p6⟩ := p3 x
        rw [if_pos x, if_neg (by decide), if_pos x]
        obtain ⟨q1, q2, q3, q4, q5, q6, q7, q8, q9⟩ := P2
        refine xw_k (c_haddN D h hB ⟨hz2, q3, q5, q6, q7, q8, q9⟩ (x := 2) (zR_s (by omega))) ?_
        intro r3 z3 _ hz3 ⟨a1, a2, a3, a4⟩
        have k9 := hP.2.2.2.2.2.2.2.2
        have el : f0 + ((cc ++ ((o (i + 1)).2.2.1 ++ [2])).length : Int) = f0 + cc.length + (o (i + 1)).2.2.1.length + 1 := by
          simp only [List.length_append, List.length_cons, List.length_nil]
          omega
        have eg : (((240 - (g + 1) : Nat) : Int) + 1) = ((240 - g : Nat) : Int) := by omega
        rw [eg]
        refine ih _ _ _ z3 (by omega) ?_ ?_ (FC_tr FF2 a4 (by omega)) f00 N (by omega)
        · rw [el]
          exact ⟨hz3, CTK_t q2 a4, a1, q4, by rw [a4.1 57 rfl]; exact q5, q6, a2, by omega, by omega⟩
        · refine has_a _ _ _ (has_t _ _ (fun y y0 y1 => ?_) hh) (has_a _ _ _ (has_t _ _ (fun y y0 y1 => a4.2.2.2 y (by omega)) p6) ⟨a3, trivial⟩)
          rw [a4.2.2.2 y (by omega), p4.2.2.2 y (by omega), e60]
      · rw [if_neg x, if_pos rfl, if_neg x]
        exact xw_ret h0r hz2 ⟨rfl, p2, (fun y => by cases y), FF2⟩
    · rw [if_pos q, if_neg q]
      exact xw_ret h1r hP.1 ⟨rfl, hP.2.2.1, fun _ => ⟨hP.2.2.2.2.2.2.1, hh⟩, hF⟩
theorem c_cond (D : Nat) {K W : Nat → Int} {B : Nat → Int} {m : Nat} (h : TKO K W B m) (hB : ∀ j, B j ≤ 240) {cnt : Int} {op : Int} {o : Nat → PR} (ho : ∀ (z : zH) (j : Nat) (f : Int), PreC K W B m cnt z j f → xw (cM (D + 1) 80 [xR 25 55, xI (zI op)] (hI z)) (PostC K W cnt f (o j) z)) (hoP : ∀ j, j ≤ m → PB B m j (o j)) (mm : Int) (z : zH) (i : Nat) (f : Int) (hP : PreC K W B m cnt z i f) : xw (cM (D + 2) 79 [xR 25 55, xI (zI op)] (hI z)) (PostC K W cnt f (pJoin K W o 5 2 mm i) z) := by
  have h0r : zR 0 := zR_s (by omega)
  rw [e_X9_isCond, show xF = 999999 + 1 from rfl, l_X9_isCond_0]
  simp only [zLit]
  refine xw_k (ho z i f hP) ?_
  intro rv z1 _ hz1 hp
  have hp0 := hp
  obtain ⟨p1, p2, p3, p4⟩ := hp
  subst p1
  unfold pJoin
  by_cases x : (o i).1 = true
  · have P1 := PreC_p hP hp0 (hoP i hP.2.2.2.1) x hz1
    rw [if_pos x, if_neg (by decide), if_pos x]
    exact c_cond_l D h hB ho hoP mm 240 _ _ _ z1 (by omega) P1 (p3 x).2 p4 hP.2.2.2.2.2.2.2.1 999999 (by omega)
  · rw [if_neg x, if_pos rfl, if_neg x]
    exact xw_ret h0r hz1 ⟨rfl, p2, (fun y => by cases y), p4⟩
theorem c_bro {K W : Nat → Int} {B : Nat → Int} {m : Nat} (h : TKO K W B m) (hB : ∀ j, B j ≤ 240) {cnt : Int} : ∀ (g : Nat) (d : Nat), g ≤ 4 → ∀ (z : zH) (j : Nat) (f : Int), PreC K W B m cnt z j f → sgA K W j 40 → xw (cM (d + 4 * g + 2) 82 [xR 25 55, xI (zI (4 - (g : Int)))] (hI z)) (PostC K W cnt f (bro K W g j) z) := by
  have h0r : zR 0 := zR_s (by omega)
  have h1r : zR 1 := zR_s (by omega)
  intro g
  induction g with
  | zero =>
    intro d _ z j f hP hj
    rw [e_X9_isInBrackets]
    simp only [zLit]
    rw [if_neg (by decide)]
    exact xw_ret h0r hP.1 ⟨rfl, hP.2.2.1, (fun y => by cases y), FC_rf _ _ _⟩
  | succ g ih =>
    intro d hg z j f hP hj
    have e7 : z 55 7 = (j : Int) := hP.2.2.1.1
    rw [show d + 4 * (g + 1) + 2 = (d + 4 * g + 5) + 1 by omega, e_X9_isInBrackets]
    simp only [zLit, zI_add, hI_fs, e7]
    rw [if_pos (by rw [zI_lt (zR_s (by omega)) (zR_s (by omega))]; omega)]
    refine xw_k (c_lookN (d + 4 * g + 4) h hP (by have := hj.1; omega)) ?_
    intro r1 z1 _ hz1 ⟨P1, F1, e60⟩
    rw [show (4 - ((g + 1 : Nat) : Int) + 1) = 4 - (g : Int) by omega]
    have one := c_one (d + 4 * g) h hB (fun z j f hP hj => ih d (by omega) z j f hP hj) (PB_bro h g)
    have all := c_all (d + 4 * g + 2) h hB one (fun j hj => PB_one h (PB_bro h g) hj) (-2)
    have cond : ∀ (z : zH) (i : Nat) (f : Int), PreC K W B m cnt z i f → xw (cM (d + 4 * g + 5) 79 [xR 25 55, xI (zI (4 - (g : Int)))] (hI z)) (PostC K W cnt f (pCond K W (bro K W g) i) z) := c_cond (d + 4 * g + 3) h hB all (fun j hj => PB_all h (PB_bro h g) hj) (-3)
    refine xw_k (cond z1 (j + 1) f P1) ?_
    intro rv z2 _ hz2 hp
    have hp0 := hp
    have pb := PB_cond h (PB_bro h g) (i := j + 1) P1.2.2.2.1
    obtain ⟨p1, p2, p3, p4⟩ := hp
    subst p1
    have FF2 := FC_tr F1 p4 (Int.le_refl _)
    have eb : bro K W (g + 1) j = if (pCond K W (bro K W g) (j + 1)).1 = true then (if sgA K W (pCond K W (bro K W g) (j + 1)).2.1 41 then (true, (pCond K W (bro K W g) (j + 1)).2.1 + 1, (pCond K W (bro K W g) (j + 1)).2.2) else (false, (pCond K W (bro K W g) (j + 1)).2.1, [], [])) else (false, (pCond K W (bro K W g) (j + 1)).2.1, [], []) := rfl
    rw [eb]
    generalize pCond K W (bro K W g) (j + 1) = R at *
    by_cases x : R.1 = true
    · have P2 := PreC_p P1 hp0 pb x hz2
      have cb := fun d => c_isByte d hz2 p2 (w := 41) (zR_s (by omega))
      have e72 : z2 55 7 = (R.2.1 : Int) := p2.1
      rw [if_pos x, if_neg (by decide), if_pos x]
      simp only [cb, xbd_n, zB_0, hI_fs, e72, zI_add]
      by_cases y : sgA K W R.2.1 41
      · rw [if_neg (fun w => w y), if_pos y]
        refine xw_k (c_lookN (d + 4 * g + 4) h P2 (by have := y.1; omega)) ?_
        intro r3 z3 _ hz3 ⟨P3, F3, e60'⟩
        refine xw_ret h1r hz3 ⟨rfl, P3.2.2.1, fun _ => ⟨P3.2.2.2.2.2.2.1, ?_⟩, FC_tr FF2 F3 (by omega)⟩
        rw [e60']
        exact (p3 x).2
      · rw [if_pos y, if_neg y]
        exact xw_ret h0r hz2 ⟨rfl, p2, (fun w => by cases w), FF2⟩
    · rw [if_neg x, if_pos rfl, if_neg x]
      exact xw_ret h0r hz2 ⟨rfl, p2, (fun w => by cases w), FF2⟩
theorem c_condW (d : Nat) {K W : Nat → Int} {B : Nat → Int} {m : Nat} (h : TKO K W B m) (hB : ∀ j, B j ≤ 240) {cnt : Int} {z : zH} {i : Nat} {f : Int} (hP : PreC K W B m cnt z i f) : xw (cM (d + 21) 79 [xR 25 55, xI (zI 0)] (hI z)) (PostC K W cnt f (pCond K W (bro K W 4) i) z) := by
  have one := c_one (d + 16) h hB (fun z j f hP hj => c_bro h hB (cnt := cnt) 4 d (by omega) z j f hP hj) (PB_bro h 4)
  have all := c_all (d + 18) h hB one (fun j hj => PB_one h (PB_bro h 4) hj) (-2)
  exact c_cond (d + 19) h hB all (fun j hj => PB_all h (PB_bro h 4) hj) (-3) z i f hP
