/-! PURE, part 76: the model reads a COND -/
theorem m_180F (d : Nat) {z : zH} (h22 : z 100 22 = 1) {k : Nat} (hk : k ≤ 1000) : ∀ (g j : Nat), j + g = k → ∀ N, g < N → r_X12_one (d + 1) N 180 [some (xR 28 100), some (xI (zI (k : Int))), some (xI (zI (j : Int))), none, none] [] (hI z) = some (zI 0, hI z) := by
  have cf := fun d x => m_codesF d (z := z) (x := x) h22
  intro g
  induction g with
  | zero =>
    intro j hj N hN
    obtain ⟨N, rfl⟩ := Nat.exists_eq_succ_of_ne_zero (show N ≠ 0 by omega)
    rw [l_X12_one_180]
    simp only [zLit]
    rw [if_neg (by rw [zI_lt (zR_s (by omega)) (zR_s (by omega))]; omega)]
  | succ g ih =>
    intro j hj N hN
    obtain ⟨N, rfl⟩ := Nat.exists_eq_succ_of_ne_zero (show N ≠ 0 by omega)
    rw [l_X12_one_180]
    simp only [zLit, zI_add]
    rw [if_pos (by rw [zI_lt (zR_s (by omega)) (zR_s (by omega))]; omega)]
    simp only [cf, xbd_n]
    rw [show (j : Int) + 1 = ((j + 1 : Nat) : Int) by omega]
    exact ih (j + 1) (by omega) N (by omega)
theorem m_180 (d : Nat) {k : Nat} (hk : k ≤ 1000) : ∀ (g j : Nat) (q : Int) (z : zH), j + g = k → zRR z → z 100 22 = 0 → z 100 24 = q → 0 ≤ q → q + g ≤ 120 → ∀ N, g < N → xw (r_X12_one (d + 1) N 180 [some (xR 28 100), some (xI (zI (k : Int))), some (xI (zI (j : Int))), none, none] [] (hI z)) (fun _ z' => z' 100 24 = q + g ∧ has (z' 113) q (List.replicate g (-1)) ∧ FM q z z' ∧ ff [24] z z') := by
  have h0r : zR 0 := zR_s (by omega)
  intro g
  induction g with
  | zero =>
    intro j q z hj hz h22 h24 q0 qg N hN
    obtain ⟨N, rfl⟩ := Nat.exists_eq_succ_of_ne_zero (show N ≠ 0 by omega)
    rw [l_X12_one_180]
    simp only [zLit]
    rw [if_neg (by rw [zI_lt (zR_s (by omega)) (zR_s (by omega))]; omega)]
    exact xw_ret h0r hz ⟨by omega, trivial, FM_rf _ _, ff_rf _ _⟩
  | succ g ih =>
    intro j q z hj hz h22 h24 q0 qg N hN
    obtain ⟨N, rfl⟩ := Nat.exists_eq_succ_of_ne_zero (show N ≠ 0 by omega)
    rw [l_X12_one_180]
    simp only [zLit, zI_add, zI_neg]
    rw [if_pos (by rw [zI_lt (zR_s (by omega)) (zR_s (by omega))]; omega)]
    refine xw_k (m_codes d hz h22 h24 ⟨q0, by omega⟩ (x := -1) (zR_s (by omega))) ?_
    intro r z1 _ hz1 ⟨a1, a2, a3, a4⟩
    rw [show (j : Int) + 1 = ((j + 1 : Nat) : Int) by omega]
    refine xw_m (ih (j + 1) (q + 1) z1 (by omega) hz1 (by rw [a4 22 rfl]; exact h22) a1 (by omega) (by omega) N (by omega)) ?_
    intro r2 z2 _ _ ⟨b1, b2, b3, b4⟩
    refine ⟨by omega, ?_, FM_tr a3 b3 (by omega), ff_tr a4 b4 rfl⟩
    rw [List.replicate_succ]
    exact ⟨by rw [b3.2.2 q (by omega)]; exact a2, b2⟩
theorem MV_24 {T : Int → Int} {n p : Int} {z z' : zH} (h : MV T n z p) (f : ff [24] z z') : MV T n z' p := by
  unfold MV
  rw [f 19 rfl, f 20 rfl, f 21 rfl]
  exact h
/-- behind what was negated -/
theorem m_oneT (d : Nat) {T : Int → Int} {n : Int} {m : Nat} (hk : Tks T n m) {z0 : zH} {i : Nat} {q dp : Int} (hq : 0 ≤ q ∧ 2 * q ≤ stN T n i) {r2 : PR} {k : Nat} (hk0 : k ≤ 240) {X : List Int} (hb : PB (stN T n) m i (r2.1, r2.2.1, X, r2.2.2.2 ++ List.replicate k (-1))) : ∀ (z' : zH), zRR z' → PostN T n q dp r2 z0 z' → ∀ N, 300 < N → xw (r_X12_one (d + 1) N 180 [some (xR 28 100), some (xI (zI (k : Int))), some (xI (zI 0)), none, none] [] (hI z')) (fun _ z'' => PostN T n q dp (r2.1, r2.2.1, X, r2.2.2.2 ++ List.replicate k (-1)) z0 z'') := by
  have h0r : zR 0 := zR_s (by omega)
  intro z' hz' hp N hN
  obtain ⟨p1, p2, p3, p4⟩ := hp
  by_cases x : r2.1 = true
  · obtain ⟨a1, a2, a3, a4⟩ := p1 x
    have b := hb.2.2 x
    have b3 := b.2.2
    simp only [List.length_append, List.length_replicate] at b3
    have s240 := (stN_b (T := T) hk.1.1 r2.2.1).2
    have n240 := hk.1.2
    have T1 := m_180 d (k := k) (by omega) k 0 (q + r2.2.2.2.length) z' (by omega) hz' a2 a3 (by omega) (by omega) N (by omega)
    refine xw_m T1 ?_
    intro r z2 _ _ ⟨c1, c2, c3, c4⟩
    refine ⟨fun _ => ⟨MV_24 a1 c4, by rw [c4 22 rfl]; exact a2, ?_, has_a _ _ _ (has_t _ _ (fun y y0 y1 => c3.2.2 y (by omega)) a4) c2⟩, fun y => absurd x y, by rw [c4 23 rfl]; exact p3, FM_tr p4 c3 (by omega)⟩
    simp only [List.length_append, List.length_replicate]
    omega
  · obtain ⟨a1, a2⟩ := p2 x
    rw [show (zI 0) = zI ((0 : Nat) : Int) from rfl, m_180F d a1 (k := k) (by omega) k 0 (by omega) N (by omega)]
    exact xw_ret h0r hz' ⟨fun y => absurd y x, fun _ => ⟨a1, a2⟩, p3, p4⟩
theorem m_oneF (d : Nat) {z : zH} (h22 : z 100 22 = 1) : cM (d + 4) 219 [xR 28 100] (hI z) = some (zI 0, hI z) := by
  have nf := fun d o => m_isNameF d (z := z) (o := o) h22
  have sf := fun d c => m_isSignF d (z := z) (c := c) h22
  have vf := fun d => m_valueF d (z := z) h22
  have df := fun d x => m_needF d (z := z) (x := x) h22
  have cf := fun d x => m_codesF d (z := z) (x := x) h22
  rw [e_X12_one, show xF = 999999 + 1 from rfl, l_X12_one_0]
  obtain ⟨k, hk⟩ : ∃ k, (999999 : Nat) = k + 1 + 1 := ⟨999997, rfl⟩
  rw [hk, l_X12_one_2]
  simp only [zLit, nf, sf, vf, df, cf, xbd_n, if_true]
  exact m_180F (d + 2) h22 (k := 0) (by omega) 0 0 rfl (k + 1) (by omega)
theorem m_allF (d : Nat) {z : zH} (h22 : z 100 22 = 1) : cM (d + 5) 217 [xR 28 100] (hI z) = some (zI 0, hI z) := by
  have nf := fun d o => m_isNameF d (z := z) (o := o) h22
  have of := fun d => m_oneF d (z := z) h22
  rw [e_X12_all, show xF = 999999 + 1 from rfl, l_X12_all_0]
  simp only [of, xbd_n]
  obtain ⟨k, hk⟩ : ∃ k, (999999 : Nat) = k + 1 := ⟨999998, rfl⟩
  rw [hk, l_X12_all_4]
  simp only [zLit, nf, xbd_n, if_true]
theorem m_eitherF (d : Nat) {z : zH} (h22 : z 100 22 = 1) : cM (d + 6) 216 [xR 28 100] (hI z) = some (zI 0, hI z) := by
  have nf := fun d o => m_isNameF d (z := z) (o := o) h22
  have of := fun d => m_allF d (z := z) h22
  rw [e_X12_either, show xF = 999999 + 1 from rfl, l_X12_either_0]
  simp only [of, xbd_n]
  obtain ⟨k, hk⟩ : ∃ k, (999999 : Nat) = k + 1 := ⟨999998, rfl⟩
  rw [hk, l_X12_either_4]
  simp only [zLit, nf, xbd_n, if_true]
/-- a comparison, behind its sign -/
theorem m_cmpT (d : Nat) {T : Int → Int} {n : Int} {m : Nat} (hT : tpB T n) (hk : Tks T n m) {z z1 : zH} {j : Nat} {q dp s : Int} (hv : vOkB (Kk T n) (Ww T n) j = true) (hs : s = sgn (Kk T n) (Ww T n) (j + 1)) (s0 : 0 ≤ s) (hP1 : PreM T n m z1 (j + 1) q dp) (hF : FM q z z1) (hq : 0 ≤ q ∧ 2 * q ≤ stN T n j) {k : Nat} {N : Nat} {Q : Int → zH → Prop} (cont : ∀ z', zRR z' → PostN T n q dp (pCmp (Kk T n) (Ww T n) j) z z' → xw (r_X12_one (d + 7) N 180 [some (xR 28 100), some (xI (zI (k : Int))), some (xI (zI 0)), none, none] [] (hI z')) Q) : xw (xbd (cM (d + 7) 214 [xR 28 100, xI (zI 1)] (hI z1)) fun r23 h24 => xbd (cM (d + 7) 218 [xR 28 100] h24) fun r25 h26 => xbd (cM (d + 7) 215 [xR 28 100, xI (zI (1010 * (1010 * s + vVl (Kk T n) (Ww T n) j)) + r25)] h26) fun r27 h28 => r_X12_one (d + 7) N 180 [some (xR 28 100), some (xI (zI (k : Int))), some (xI (zI 0)), none, none] [] h28) Q := by
  have O := Tks_O hk
  have sb := sgn_b (Kk T n) (Ww T n) (j + 1)
  have va := vVl_b O ((vOkB_i (Kk T n) (Ww T n) j).mp hv)
  refine xw_k (m_need1 (d + 3) hT hk hP1 (by have := sb.2.2 (by omega); show kd T n (stN T n (j + 1)) ≠ 0; have e : Kk T n (j + 1) = kd T n (stN T n (j + 1)) := rfl; omega)) ?_
  intro r2 z2 _ hz2 ⟨P2, F2, e113⟩
  have FF2 := FM_tr hF F2 (Int.le_refl _)
  refine xw_k (m_valP d hT hk P2) ?_
  intro rv z3 hrv hz3 ⟨y1, y2, y3, y4⟩
  have FF3 := FM_tr FF2 y4 (Int.le_refl _)
  by_cases x : vOkB (Kk T n) (Ww T n) (j + 2) = true
  · obtain ⟨e1, P3, e3⟩ := y1 x
    subst e1
    have vb := vVl_b O ((vOkB_i (Kk T n) (Ww T n) (j + 2)).mp x)
    have er : pCmp (Kk T n) (Ww T n) j = (true, j + 3, [cdC s (vVl (Kk T n) (Ww T n) j) (vVl (Kk T n) (Ww T n) (j + 2))], [cdM s (vVl (Kk T n) (Ww T n) j) (vVl (Kk T n) (Ww T n) (j + 2))]) := by
      unfold pCmp
      rw [if_pos hv, if_pos (by omega), if_pos x, hs]
    obtain ⟨g1, g2, g3, g4, g5, g6, g7, g8, g9⟩ := P3
    have s240 := (stN_b (T := T) hk.1.1 (j + 1 + 1 + 1)).2
    have n240 := hk.1.2
    rw [zI_add]
    refine xw_k (m_codes (d + 6) hz3 g4 g6 ⟨g7, by omega⟩ (x := 1010 * (1010 * s + vVl (Kk T n) (Ww T n) j) + vVl (Kk T n) (Ww T n) (j + 2)) (by simp only [zR]; omega)) ?_
    intro r4 z4 _ hz4 ⟨a1, a2, a3, a4⟩
    refine cont z4 hz4 ?_
    rw [er]
    exact ⟨fun _ => ⟨MV_24 g3 a4, by rw [a4 22 rfl]; exact g4, a1, a2, trivial⟩, fun y => absurd rfl y, by rw [a4 23 rfl]; exact g9, FM_tr FF3 a3 (Int.le_refl _)⟩
  · obtain ⟨f1, f2⟩ := y2 x
    have er : pCmp (Kk T n) (Ww T n) j = (false, j + 2, [], []) := by
      unfold pCmp
      rw [if_pos hv, if_pos (by omega), if_neg x]
    have cf := fun d x => m_codesF d (z := z3) (x := x) f1
    simp only [cf, xbd_n]
    refine cont z3 hz3 ?_
    rw [er]
    exact ⟨(fun y => by cases y), fun _ => ⟨f1, f2⟩, y3, FF3⟩
/-- a bracket: at most 4 -/
theorem m_brk0 (d : Nat) {T : Int → Int} {n : Int} {m : Nat} {z : zH} {j : Nat} {q dp : Int} (hdp : dp = 4) (hP : PreM T n m z j q dp) {K W : Nat → Int} {k : Nat} {N : Nat} {Q : Int → zH → Prop} (cont : ∀ z', zRR z' → PostN T n q dp (bro K W 0 j) z z' → xw (r_X12_one (d + 7) N 180 [some (xR 28 100), some (xI (zI (k : Int))), some (xI (zI 0)), none, none] [] (hI z')) Q) : xw (if zI 4 < zI (dp + 1) then (xbd (cM (d + 7) 214 [xR 28 100, xI (zI 0)] (hI (zup z 100 23 (dp + 1)))) fun r101 h102 => xbd (cM (d + 7) 216 [xR 28 100] h102) fun r103 h104 => xbd (cM (d + 7) 213 [xR 28 100, xI (zI 41)] h104) fun r105 h106 => xbd (cM (d + 7) 214 [xR 28 100, xI r105] h106) fun r107 h108 => r_X12_one (d + 7) N 180 [some (xR 28 100), some (xI (zI (k : Int))), some (xI (zI 0)), none, none] [] (xup h108 100 23 (h108 100 23 - zI 1))) else (xbd (cM (d + 7) 214 [xR 28 100, xI (zI 1)] (hI (zup z 100 23 (dp + 1)))) fun r109 h110 => xbd (cM (d + 7) 216 [xR 28 100] h110) fun r111 h112 => xbd (cM (d + 7) 213 [xR 28 100, xI (zI 41)] h112) fun r113 h114 => xbd (cM (d + 7) 214 [xR 28 100, xI r113] h114) fun r115 h116 => r_X12_one (d + 7) N 180 [some (xR 28 100), some (xI (zI (k : Int))), some (xI (zI 0)), none, none] [] (xup h116 100 23 (h116 100 23 - zI 1)))) Q := by
  obtain ⟨h1, h2, h3, h4, h5, h6, h7, h8, h9⟩ := hP
  subst hdp
  have e22 : zup z 100 23 (4 + 1) 100 22 = 0 := by rw [zup_at, if_neg (by omega)]; exact h4
  have m0 := fun d => m_need0 d e22
  obtain ⟨z1, hz1e⟩ : ∃ z1, z1 = zup (zup z 100 23 (4 + 1)) 100 22 1 := ⟨_, rfl⟩
  have hz1 : zRR z1 := by rw [hz1e]; exact zRR_up (zRR_up h1 _ _ (zR_s (by omega))) _ _ (zR_s (by omega))
  have f22 : z1 100 22 = 1 := by rw [hz1e, zup_at, if_pos ⟨rfl, rfl⟩]
  have f23 : z1 100 23 = 5 := by rw [hz1e, zup_at, if_neg (by omega), zup_at, if_pos ⟨rfl, rfl⟩]; rfl
  have ef := fun d => m_eitherF d f22
  have sf := fun d c => m_isSignF d (z := z1) (c := c) f22
  have df := fun d x => m_needF d (z := z1) (x := x) f22
  rw [if_pos (by decide)]
  simp only [m0, xbd_n]
  rw [← hz1e]
  simp only [ef, sf, df, xbd_n, hI_fs, f23, zI_sub, hI_us]
  refine cont _ (zRR_up hz1 _ _ (zR_s (by omega))) ⟨(fun y => by cases y), fun _ => ⟨?_, ?_⟩, ?_, ?_⟩
  · rw [zup_at, if_neg (by omega)]; exact f22
  · rw [zup_at, if_neg (by omega), hz1e, zup_at, if_neg (by omega), zup_at, if_neg (by omega)]; exact h3.1
  · rw [zup_at, if_pos ⟨rfl, rfl⟩]; rfl
  · rw [hz1e]
    exact ⟨fr_up (fr_up (fr_up (fr_rf _ _) _ _ rfl) _ _ rfl) _ _ rfl, ff_up (ff_up (ff_up (ff_rf _ _) _ rfl) _ rfl) _ rfl, fun j _ => by rw [zup_ne _ _ _ (by decide), zup_ne _ _ _ (by decide), zup_ne _ _ _ (by decide)]⟩
theorem m_brk1 (d : Nat) {T : Int → Int} {n : Int} {m : Nat} (hT : tpB T n) (hk : Tks T n m) {g : Nat} (he : ∀ (z : zH) (j : Nat) (q : Int), PreM T n m z j q (4 - (g : Int)) → xw (cM (d + 7) 216 [xR 28 100] (hI z)) (fun _ z' => PostN T n q (4 - (g : Int)) (pCond (Kk T n) (Ww T n) (bro (Kk T n) (Ww T n) g) j) z z')) (hg : g ≤ 3) {z : zH} {j : Nat} {q dp : Int} (hdp : dp = 3 - (g : Int)) (hP : PreM T n m z j q dp) (hj : sgA (Kk T n) (Ww T n) j 40) {k : Nat} {N : Nat} {Q : Int → zH → Prop} (cont : ∀ z', zRR z' → PostN T n q dp (bro (Kk T n) (Ww T n) (g + 1) j) z z' → xw (r_X12_one (d + 7) N 180 [some (xR 28 100), some (xI (zI (k : Int))), some (xI (zI 0)), none, none] [] (hI z')) Q) : xw (if zI 4 < zI (dp + 1) then (xbd (cM (d + 7) 214 [xR 28 100, xI (zI 0)] (hI (zup z 100 23 (dp + 1)))) fun r101 h102 => xbd (cM (d + 7) 216 [xR 28 100] h102) fun r103 h104 => xbd (cM (d + 7) 213 [xR 28 100, xI (zI 41)] h104) fun r105 h106 => xbd (cM (d + 7) 214 [xR 28 100, xI r105] h106) fun r107 h108 => r_X12_one (d + 7) N 180 [some (xR 28 100), some (xI (zI (k : Int))), some (xI (zI 0)), none, none] [] (xup h108 100 23 (h108 100 23 - zI 1))) else (xbd (cM (d + 7) 214 [xR 28 100, xI (zI 1)] (hI (zup z 100 23 (dp + 1)))) fun r109 h110 => xbd (cM (d + 7) 216 [xR 28 100] h110) fun r111 h112 => xbd (cM (d + 7) 213 [xR 28 100, xI (zI 41)] h112) fun r113 h114 => xbd (cM (d + 7) 214 [xR 28 100, xI r113] h114) fun r115 h116 => r_X12_one (d + 7) N 180 [some (xR 28 100), some (xI (zI (k : Int))), some (xI (zI 0)), none, none] [] (xup h116 100 23 (h116 100 23 - zI 1)))) Q := by
  have O := Tks_O hk
  have hP0 := hP
  obtain ⟨h1, h2, h3, h4, h5, h6, h7, h8, h9⟩ := hP
  have nb := fun i => stN_b (T := T) hk.1.1 i
  have F1 : FM q z (zup z 100 23 (dp + 1)) := ⟨fr_up (fr_rf _ _) _ _ rfl, ff_up (ff_rf _ _) _ rfl, fun j _ => by rw [zup_ne _ _ _ (by decide)]⟩
  have P1 : PreM T n m (zup z 100 23 (dp + 1)) j q (4 - (g : Int)) := ⟨zRR_up h1 _ _ (zR_s (by omega)), FM_MT h2 F1, ⟨by rw [zup_at, if_neg (by omega)]; exact h3.1, by rw [zup_at, if_neg (by omega)]; exact h3.2.1, by rw [zup_at, if_neg (by omega)]; exact h3.2.2⟩, by rw [zup_at, if_neg (by omega)]; exact h4, h5, by rw [zup_at, if_neg (by omega)]; exact h6, h7, h8, by rw [zup_at, if_pos ⟨rfl, rfl⟩]; omega⟩
  rw [if_neg (by rw [zI_lt (zR_s (by omega)) (zR_s (by omega))]; omega)]
  refine xw_k (m_need1 (d + 3) hT hk P1 (by have := hj.1; omega)) ?_
  intro r2 z2 _ hz2 ⟨P2, F2, _⟩
  have FF2 := FM_tr F1 F2 (Int.le_refl _)
  refine xw_k (he z2 (j + 1) q P2) ?_
  intro r3 z3 _ hz3 hp
  have hp0 := hp
  have pb := PB_cond O (PB_bro O g) (i := j + 1) P2.2.2.2.2.1
  obtain ⟨p1, p2, p3, p4⟩ := hp
  have FF3 := FM_tr FF2 p4 (Int.le_refl _)
  have eb : bro (Kk T n) (Ww T n) (g + 1) j = if (pCond (Kk T n) (Ww T n) (bro (Kk T n) (Ww T n) g) (j + 1)).1 = true then (if sgA (Kk T n) (Ww T n) (pCond (Kk T n) (Ww T n) (bro (Kk T n) (Ww T n) g) (j + 1)).2.1 41 then (true, (pCond (Kk T n) (Ww T n) (bro (Kk T n) (Ww T n) g) (j + 1)).2.1 + 1, (pCond (Kk T n) (Ww T n) (bro (Kk T n) (Ww T n) g) (j + 1)).2.2) else (false, (pCond (Kk T n) (Ww T n) (bro (Kk T n) (Ww T n) g) (j + 1)).2.1, [], [])) else (false, (pCond (Kk T n) (Ww T n) (bro (Kk T n) (Ww T n) g) (j + 1)).2.1, [], []) := rfl
  rw [eb] at cont
  generalize pCond (Kk T n) (Ww T n) (bro (Kk T n) (Ww T n) g) (j + 1) = R at *
  -- behind it, one less is open
  have fin : ∀ (r : PR) (z5 : zH), zRR z5 → PostN T n q (4 - (g : Int)) r z z5 → PostN T n q dp r z (zup z5 100 23 (4 - (g : Int) - 1)) := by
    intro r z5 _ ⟨u1, u2, u3, u4⟩
    refine ⟨fun y => ?_, fun y => ?_, by rw [zup_at, if_pos ⟨rfl, rfl⟩]; omega, ⟨fr_up u4.1 _ _ rfl, ff_up u4.2.1 _ rfl, fun j hj => by rw [zup_ne _ _ _ (by decide)]; exact u4.2.2 j hj⟩⟩
    · obtain ⟨w1, w2, w3, w4⟩ := u1 y
      refine ⟨⟨?_, ?_, ?_⟩, ?_, ?_, ?_⟩
      · rw [zup_at, if_neg (by omega)]; exact w1.1
      · rw [zup_at, if_neg (by omega)]; exact w1.2.1
      · rw [zup_at, if_neg (by omega)]; exact w1.2.2
      · rw [zup_at, if_neg (by omega)]; exact w2
      · rw [zup_at, if_neg (by omega)]; exact w3
      · rw [zup_ne _ _ _ (by decide)]; exact w4
    · obtain ⟨w1, w2⟩ := u2 y
      refine ⟨?_, ?_⟩
      · rw [zup_at, if_neg (by omega)]; exact w1
      · rw [zup_at, if_neg (by omega)]; exact w2
  by_cases x : R.1 = true
  · have P3 := PreM_p P2 hp0 pb x hz3
    obtain ⟨p5, p6, p7, p8⟩ := p1 x
    have ms := fun d => m_isSign d hz3 hT P3.2.1 (nb R.2.1) p5 p6 (c := 41) (by omega)
    simp only [ms, xbd_n]
    rw [if_pos x] at cont
    by_cases y : sgA (Kk T n) (Ww T n) R.2.1 41
    · rw [if_pos y] at cont
      rw [← zB_t (show isS T n (stN T n R.2.1) 41 from y)]
      refine xw_k (m_need1 (d + 3) hT hk P3 (by have := y.1; omega)) ?_
      intro r4 z4 _ hz4 ⟨P4, F4, e113⟩
      have e23 : z4 100 23 = 4 - (g : Int) := P4.2.2.2.2.2.2.2.2
      simp only [hI_fs, e23, zI_sub, hI_us]
      refine cont _ (zRR_up hz4 _ _ (zR_s (by omega))) (fin _ z4 hz4 ⟨fun _ => ⟨P4.2.2.1, P4.2.2.2.1, P4.2.2.2.2.2.1, by rw [e113]; exact p8⟩, fun w => absurd rfl w, e23, FM_tr FF3 F4 (by omega)⟩)
    · rw [if_neg y] at cont
      rw [← zB_f (show ¬ isS T n (stN T n R.2.1) 41 from y)]
      have m0 := fun d => m_need0 d p6
      simp only [m0, xbd_n]
      have e23 : zup z3 100 22 1 100 23 = 4 - (g : Int) := by rw [zup_at, if_neg (by omega)]; exact p3
      simp only [hI_fs, e23, zI_sub, hI_us]
      have hz4 : zRR (zup z3 100 22 1) := zRR_up hz3 _ _ (zR_s (by omega))
      refine cont _ (zRR_up hz4 _ _ (zR_s (by omega))) (fin _ _ hz4 ⟨(fun w => by cases w), fun _ => ⟨by rw [zup_at, if_pos ⟨rfl, rfl⟩], by rw [zup_at, if_neg (by omega)]; exact p5.1⟩, e23, ⟨fr_up FF3.1 _ _ rfl, ff_up FF3.2.1 _ rfl, fun j hj => by rw [zup_ne _ _ _ (by decide)]; exact FF3.2.2 j hj⟩⟩)
  · obtain ⟨f1, f2⟩ := p2 x
    rw [if_neg x] at cont
    have sf := fun d c => m_isSignF d (z := z3) (c := c) f1
    have df := fun d x => m_needF d (z := z3) (x := x) f1
    simp only [sf, df, xbd_n, hI_fs, p3, zI_sub, hI_us]
    exact cont _ (zRR_up hz3 _ _ (zR_s (by omega))) (fin _ z3 hz3 ⟨(fun w => by cases w), fun _ => ⟨f1, f2⟩, p3, FF3⟩)
