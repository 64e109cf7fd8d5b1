/-! PURE, part 28: the model's flight by a plan; what is told of a flight; flown -/
theorem m_flyPlan_l (d : Nat) {v : Int → Int} (hL : LandI v) {p s : Int} {z0 : zH} (hP : PPlans 9 z0 v) (hS : PScenes 11 z0 v) (hp : 0 ≤ p ∧ p < v 8) (hs : s = -1 ∨ (0 ≤ s ∧ s < v 9)) {c0 : crft} : ∀ (m k : Nat) (z : zH), k + m = 60 → zRR z → z 101 = v → okC v (traj v (chP v p) (spGives v s) c0 k) → crM z = traj v (chP v p) (spGives v s) c0 k → z 100 16 = k → logM z v (chP v p) (spGives v s) c0 k → ∀ n, m < n →
    xw (r_X12_flyPlan (d + 5) n 19 [some (xR 28 100), some (xI (zI p)), some (xI (zI s)), some (xI (zI (chP v p k (traj v (chP v p) (spGives v s) c0 k)))), none] [] (hI z)) (fun _ z' => crM z' = traj v (chP v p) (spGives v s) c0 (endT v (chP v p) (spGives v s) c0 m k) ∧ z' 100 16 = endT v (chP v p) (spGives v s) c0 m k ∧ logM z' v (chP v p) (spGives v s) c0 (endT v (chP v p) (spGives v s) c0 m k) ∧ fr [100, 108, 109] z z' ∧ ff [5, 6, 7, 8, 16] z z') := by
  have hb8 := hP.1.2.2.2
  have hb9 := hS.1.2.2.2.1
  have hc := (hP.2.2 p hp.1 hp.2).1
  intro m
  induction m with
  | zero =>
    intro k z hkm hz hv hok hC hk hl n hn
    obtain ⟨n, rfl⟩ := Nat.exists_eq_succ_of_ne_zero (show n ≠ 0 by omega)
    have hk60 : k = 60 := by omega
    subst hk60
    have ob : chP v p (60 : Nat) (traj v (chP v p) (spGives v s) c0 60) = -1 ∨ (0 ≤ chP v p (60 : Nat) (traj v (chP v p) (spGives v s) c0 60) ∧ chP v p (60 : Nat) (traj v (chP v p) (spGives v s) c0 60) ≤ 8) := spOr_b
    rw [l_X12_flyPlan_19]
    simp only [zLit, hI_fs, hk]
    have fin : xw (some (zI 0, hI z)) (fun _ z' => crM z' = traj v (chP v p) (spGives v s) c0 (endT v (chP v p) (spGives v s) c0 0 60) ∧ z' 100 16 = endT v (chP v p) (spGives v s) c0 0 60 ∧ logM z' v (chP v p) (spGives v s) c0 (endT v (chP v p) (spGives v s) c0 0 60) ∧ fr [100, 108, 109] z z' ∧ ff [5, 6, 7, 8, 16] z z') := xw_ret (zR_s (by omega)) hz ⟨hC, hk, hl, fr_rf _ _, ff_rf _ _⟩
    generalize chP v p (60 : Nat) (traj v (chP v p) (spGives v s) c0 60) = a at *
    by_cases q : a < 0
    · rw [if_pos (by rw [zI_lt (zR_s (by omega)) (zR_s (by omega))]; exact q)]
      exact fin
    · rw [if_neg (by rw [zI_lt (zR_s (by omega)) (zR_s (by omega))]; exact q), if_neg (by decide)]
      exact fin
  | succ m ih =>
    intro k z hkm hz hv hok hC hk hl n hn
    obtain ⟨n, rfl⟩ := Nat.exists_eq_succ_of_ne_zero (show n ≠ 0 by omega)
    have hkr : zR (k : Int) := zR_s (by omega)
    have ob : chP v p k (traj v (chP v p) (spGives v s) c0 k) = -1 ∨ (0 ≤ chP v p k (traj v (chP v p) (spGives v s) c0 k) ∧ chP v p k (traj v (chP v p) (spGives v s) c0 k) ≤ 8) := spOr_b
    rw [l_X12_flyPlan_19]
    simp only [zLit, hI_fs, hk]
    unfold endT
    rcases ob with ob | ob
    · have e2 : chP v p k (traj v (chP v p) (spGives v s) c0 k) < 0 := by omega
      simp only [if_pos e2]
      rw [if_pos (by rw [zI_lt (zR_s (by omega)) (zR_s (by omega))]; exact e2)]
      exact xw_ret (zR_s (by omega)) hz ⟨hC, hk, hl, fr_rf _ _, ff_rf _ _⟩
    · have e2 : ¬ chP v p k (traj v (chP v p) (spGives v s) c0 k) < 0 := by omega
      have hm := chP_may k (traj v (chP v p) (spGives v s) c0 k) ob.1
      have gb := spGives_b hS hs (k := k)
      simp only [if_neg e2]
      rw [if_neg (by rw [zI_lt (zR_s (by omega)) (zR_s (by omega))]; exact e2), if_pos (by rw [zI_lt hkr (zR_s (by omega))]; omega)]
      obtain ⟨a, ha⟩ : ∃ a, a = chP v p k (traj v (chP v p) (spGives v s) c0 k) := ⟨_, rfl⟩
      have rest : ∀ g, g = spGives v s k → xw (xbd (cM (d + 5) 195 [xR 28 100, xI (zI a), xI (zI g)] (hI z)) fun r1 h2 => xbd (cM (d + 5) 197 [xR 28 100, xI (zI p)] h2) fun r3 h4 => xbd (cM (d + 5) 196 [xR 28 100, xI r3] h4) fun r5 h6 => r_X12_flyPlan (d + 5) n 19 [some (xR 28 100), some (xI (zI p)), some (xI (zI s)), some (xI r5), none] [] h6) (fun _ z' => crM z' = traj v (chP v p) (spGives v s) c0 (endT v (chP v p) (spGives v s) c0 m (k + 1)) ∧ z' 100 16 = endT v (chP v p) (spGives v s) c0 m (k + 1) ∧ logM z' v (chP v p) (spGives v s) c0 (endT v (chP v p) (spGives v s) c0 m (k + 1)) ∧ fr [100, 108, 109] z z' ∧ ff [5, 6, 7, 8, 16] z z') := by
        intro g hg
        subst hg
        rw [ha]
        refine xw_k (m_goOnW _ hz (by rw [hv]; exact hL) (by rw [hv, hC]; exact hok) (by rw [hv, hC]; exact hm) gb hk ⟨by omega, by omega⟩) ?_
        intro r1 z1 hr1 hz1 ⟨w1, w2, w3, w4, f, g1⟩
        rw [hv, hC] at w1 w4
        have v1 : z1 101 = v := by rw [f 101 rfl]; exact hv
        have w1' : crM z1 = traj v (chP v p) (spGives v s) c0 (k + 1) := w1
        have hok2 : okC v (traj v (chP v p) (spGives v s) c0 (k + 1)) := goC_ok hL hok hm gb.1
        have cp := fun d => m_plannedAt d hz1 (p := p) (k := (k : Int) + 1) ⟨hp.1, by omega⟩ w2 ⟨by omega, by omega⟩ (by rw [v1]; exact hc)
        rw [v1] at cp
        have pb := spPlanned_b hP hp (k := (k : Int) + 1) (by omega)
        have cf := fun d => m_flownFor d hz1 (by rw [v1]; exact hL) (by rw [v1, w1']; exact hok2) pb
        rw [v1, w1'] at cf
        simp only [cp, xbd_n]
        simp only [cf, xbd_n]
        have hx := ih (k + 1) z1 (by omega) hz1 v1 hok2 w1' (by rw [w2]; omega) (by
          intro j hj
          rw [w3, w4]
          by_cases ej : j = k
          · subst ej
            rw [if_pos rfl, if_pos rfl]
            exact ⟨rfl, rfl⟩
          · rw [if_neg (by omega), if_neg (by omega)]
            exact hl j (by omega)) n (by omega)
        have e3 : chP v p ((k + 1 : Nat) : Int) (traj v (chP v p) (spGives v s) c0 (k + 1)) = spOr v (traj v (chP v p) (spGives v s) c0 (k + 1)) (spPlanned v p ((k : Int) + 1)) := by
          rw [show ((k + 1 : Nat) : Int) = (k : Int) + 1 by omega]
        rw [e3] at hx
        refine xw_m hx ?_
        intro r2 z2 _ _ ⟨x1, x2, x3, x4, x5⟩
        exact ⟨x1, x2, x3, fr_tr f x4 rfl, ff_tr g1 x5 rfl⟩
      rw [← ha]
      by_cases q : s = -1
      · rw [if_pos (by rw [zI_lt (zR_s (by omega)) (zR_s (by omega))]; omega)]
        refine rest 0 ?_
        unfold spGives
        rw [if_neg (by omega)]
      · have hs : 0 ≤ s ∧ s < v 9 := by omega
        have w := hS.2 s hs.1 hs.2
        have c1 := fun d => m_scene_ d (z := z) (e := s) (f := 1) (by omega) (by omega)
        have c2 := fun d => m_scene_ d (z := z) (e := s) (f := 2) (by omega) (by omega)
        have c3 := fun d => m_scene_ d (z := z) (e := s) (f := 3) (by omega) (by omega)
        simp only [show 276 + 4 * s + 1 = 277 + 4 * s by omega, hv] at c1
        simp only [show 276 + 4 * s + 2 = 278 + 4 * s by omega, hv] at c2
        simp only [show 276 + 4 * s + 3 = 279 + 4 * s by omega, hv] at c3
        rw [if_neg (by rw [zI_lt (zR_s (by omega)) (zR_s (by omega))]; omega)]
        simp only [c2, xbd_n]
        by_cases q1 : (k : Int) < v (278 + 4 * s)
        · rw [if_pos (by rw [zI_lt hkr (zR_s (by omega))]; exact q1)]
          refine rest 0 ?_
          unfold spGives
          rw [if_neg (by omega)]
        · rw [if_neg (by rw [zI_lt hkr (zR_s (by omega))]; exact q1)]
          simp only [c3, xbd_n, hI_fs, hk, zI_add]
          by_cases q2 : (k : Int) < v (278 + 4 * s) + v (279 + 4 * s)
          · rw [if_pos (by rw [zI_lt hkr (zR_s (by omega))]; exact q2)]
            simp only [c1, xbd_n]
            refine rest _ ?_
            unfold spGives
            rw [if_pos ⟨hs.1, by omega, q2⟩]
          · rw [if_neg (by rw [zI_lt hkr (zR_s (by omega))]; exact q2)]
            refine rest 0 ?_
            unfold spGives
            rw [if_neg (fun w => q2 w.2.2)]
abbrev spT (v : Int → Int) (p s : Int) : Nat := endT v (chP v p) (spGives v s) (crV v) 60 0
abbrev spC (v : Int → Int) (p s : Int) : crft := traj v (chP v p) (spGives v s) (crV v) (spT v p s)
theorem m_flyPlanW (d : Nat) {z : zH} (hz : zRR z) (hW : PWorld 1 z (z 101)) {p s : Int} (hp : 0 ≤ p ∧ p < z 101 8) (hs : s = -1 ∨ (0 ≤ s ∧ s < z 101 9)) : xw (cM (d + 6) 198 [xR 28 100, xI (zI p), xI (zI s)] (hI z)) (fun _ z' => crM z' = spC (z 101) p s ∧ z' 100 16 = spT (z 101) p s ∧ logM z' (z 101) (chP (z 101) p) (spGives (z 101) s) (crV (z 101)) (spT (z 101) p s) ∧ fr [100, 108, 109] z z' ∧ ff [5, 6, 7, 8, 16] z z') := by
  have hL := hW.1.2
  have hC : PCraft 6 z (z 101) := hW.2.1
  have g := hC.2.2.2.2.2.1
  have hP : PPlans 9 z (z 101) := hW.2.2.2.1
  have hS : PScenes 11 z (z 101) := hW.2.2.2.2.1
  have hb8 := hP.1.2.2.2
  have hc := (hP.2.2 p hp.1 hp.2).1
  rw [e_X12_flyPlan, show xF = 999999 + 1 from rfl, l_X12_flyPlan_0]
  refine xw_k (m_beginW _ hz) ?_
  intro r z1 hr hz1 ⟨c1, f1, g1⟩
  obtain ⟨H, dH⟩ : ∃ H, H = zup z1 100 16 0 := ⟨_, rfl⟩
  have yH : zRR H := by rw [dH]; exact zRR_up hz1 _ _ (zR_s (by omega))
  have vH : H 101 = z 101 := by rw [dH, zup_ne _ _ _ (by decide), f1 101 rfl]
  have kH : H 100 16 = 0 := by rw [dH, zup_at, if_pos ⟨rfl, rfl⟩]
  have cH : crM H = crV (z 101) := by
    rw [dH]
    simp only [crM, zup_at, and_self, and_true, true_and, and_false, false_and, if_true, if_false, reduceIte, Int.reduceEq]
    exact c1
  have cp := fun d => m_plannedAt d yH (p := p) (k := 0) ⟨hp.1, by omega⟩ kH ⟨by omega, by omega⟩ (by rw [vH]; exact hc)
  rw [vH] at cp
  have pb := spPlanned_b hP hp (k := 0) (by omega)
  have cf := fun d => m_flownFor d yH (by rw [vH]; exact hL) (by rw [vH, cH]; exact g) pb
  rw [vH, cH] at cf
  simp only [zLit, hI_us]
  rw [← dH]
  simp only [cp, xbd_n]
  simp only [cf, xbd_n]
  have hx := m_flyPlan_l d hL hP hS hp hs (c0 := crV (z 101)) 60 0 H (by omega) yH vH g cH kH (fun j hj => absurd hj (by omega)) 999999 (by omega)
  refine xw_m hx ?_
  intro r2 z2 _ _ ⟨x1, x2, x3, x4, x5⟩
  refine ⟨x1, x2, x3, ?_, ?_⟩
  · have : fr [100, 108, 109] z H := by rw [dH]; exact fr_up (fr_mono f1 rfl) _ _ rfl
    exact fr_tr this x4 rfl
  · have : ff [5, 6, 7, 8, 16] z H := by rw [dH]; exact ff_up (ff_mono g1 rfl) _ rfl
    exact ff_tr this x5 rfl
theorem c_byPlanW (d : Nat) {z : zH} (h : Inv z) {p s : Int} (hp : 0 ≤ p ∧ p < z 101 8) (hs : s = -1 ∨ (0 ≤ s ∧ s < z 101 9)) : xw (cM (d + 6) 16 [xR 19 45, xR 26 1, xI (zI p), xI (zI s)] (hI z)) (fun _ z' => crC z' 46 = spC (z 101) p s ∧ z' 45 2 = spT (z 101) p s ∧ (z' 47 3 = if (spT (z 101) p s : Int) < 30 then (spT (z 101) p s : Int) else 30) ∧ logC z' (z 101) (chP (z 101) p) (spGives (z 101) s) (crV (z 101)) (spT (z 101) p s) ∧ fr [45, 46, 47, 48] z z' ∧ z' 47 0 = 30 ∧ z' 47 1 = 2) := by
  obtain ⟨hz, hW, hK, hT, hO, hSh, hF, hCt⟩ := h
  have hL := hW.1.2
  have hR := RLand_R hW.1.1
  have hC : PCraft 6 z (z 101) := hW.2.1
  have hcr := PCraft_cr hC
  have g := hC.2.2.2.2.2.1
  have p4 := hC.2.2.2.2.1
  have g5 := hC.2.2.2.2.2.2
  have hP : PPlans 9 z (z 101) := hW.2.2.2.1
  have hS : PScenes 11 z (z 101) := hW.2.2.2.2.1
  obtain ⟨⟨o0, o1, o2, o3⟩, -⟩ := hO
  rw [e_X3_byPlan, show xF = 999999 + 1 from rfl, l_X3_byPlan_0, e_X3_begin]
  have B : xw (xbd (cM (d + 4) 15 [xR 18 46, xR 18 (1 + 5)] (hI z)) fun r1 h2 => some (0, xup (xup h2 47 3 0) 45 2 0)) (fun _ z1 => crC z1 46 = crV (z 101) ∧ z1 46 4 = z 101 6 ∧ z1 45 2 = 0 ∧ z1 47 3 = 0 ∧ z1 47 0 = 30 ∧ z1 47 1 = 2 ∧ fr [45, 46, 47, 48] z z1) := by
    refine xw_k (c_ccpW _ hz (o := 46) (Or.inl rfl)) ?_
    intro r z1 hr hz1 ⟨e1, e2, f⟩
    refine xw_eq (r := 0) (z := zup (zup z1 47 3 0) 45 2 0) ?_ (zR_s (by omega)) (zRR_up (zRR_up hz1 _ _ (zR_s (by omega))) _ _ (zR_s (by omega))) ⟨?_, ?_, ?_, ?_, ?_, ?_, ?_⟩
    · simp only [zLit, hI_us]
    · simp only [crC, zup_at, and_self, and_true, true_and, and_false, false_and, if_true, if_false, reduceIte, Int.reduceEq, reduceCtorEq, Nat.reduceEqDiff]
      rw [← hcr]
      exact e1
    · simp only [zup_at, false_and, if_false, Nat.reduceEqDiff]
      rw [e2, p4]
    · rw [zup_at, if_pos ⟨rfl, rfl⟩]
    · rw [zup_ne _ _ _ (by decide), zup_at, if_pos ⟨rfl, rfl⟩]
    · rw [zup_ne _ _ _ (by decide), zup_at, if_neg (by omega), f 47 rfl]; exact o2
    · rw [zup_ne _ _ _ (by decide), zup_at, if_neg (by omega), f 47 rfl]; exact o3
    · exact fr_up (fr_up (fr_mono f rfl) _ _ rfl) _ _ rfl
  refine xw_k B ?_
  intro r z1 hr hz1 ⟨w1, w2, w3, w4, w5, w6, f⟩
  simp only [zLit]
  refine xw_m (c_byPlan_l d hL hp hs (c0 := crV (z 101)) 60 0 z1 (by omega) hz1 (hz 101) (LandR_fr hR f rfl rfl rfl rfl) (PPlans_t hP (f 9 rfl) (f 10 rfl) (fun _ _ => rfl)) (PScenes_t hS (f 11 rfl) (f 12 rfl) (fun _ _ => rfl)) g w1 ⟨by omega, by omega⟩ w3 w5 w6 (by rw [w4]; rfl) (fun j hj => absurd hj (by omega)) 999999 (by omega)) ?_
  intro r2 z2 _ _ ⟨x1, x2, x3, x4, x5, x6, x7⟩
  exact ⟨x1, x2, x5, x6, fr_tr f x7 rfl, x3, x4⟩
/-- what is told of a flight -/
def spDown (v : Int → Int) (c : crft) : Prop := c.2.2.2 ≤ v (24 + c.1)
def spEndC (v : Int → Int) (c : crft) : Int := spComesTo v c.1 c.2.2.1
def spCost (v : Int → Int) (c : crft) : Int := (if spEndC v c = -9 then 999 else v (156 + 5 * spEndC v c)) + v (88 + c.1)
abbrev spTold (v : Int → Int) (c : crft) (t w : Int) : Int := if w = 0 then (if c.2.2.2 ≤ v (24 + c.1) then spEndC v c else -9) else if w = 1 then c.1 else if w = 2 then t else if w = 3 then (if c.2.2.2 ≤ v (24 + c.1) then spCost v c else 999) else (if c.2.2.2 ≤ v (24 + c.1) then 1 else 0)
theorem spEndC_b (v : Int → Int) (c : crft) (h7 : 0 ≤ v 7 ∧ v 7 ≤ 8) : spEndC v c = -9 ∨ (0 ≤ spEndC v c ∧ spEndC v c < v 7) := by
  have w := spComes_b v c.1 c.2.2.1 (v 7).toNat 0 (by omega)
  show spComes v c.1 c.2.2.1 (v 7).toNat 0 = -9 ∨ (0 ≤ spComes v c.1 c.2.2.1 (v 7).toNat 0 ∧ spComes v c.1 c.2.2.1 (v 7).toNat 0 < v 7)
  rcases w with w | w
  · left; exact w
  · right; exact ⟨w.1, by omega⟩
theorem spCost_b {z : zH} {v : Int → Int} {c : crft} (hL : LandI v) (hE : PEnds 7 z v) (hC : okC v c) : 0 ≤ spCost v c ∧ spCost v c ≤ 1098 := by
  have har := area hL.1 hL.2.1
  have b := spEndC_b v c hE.1.2.2.2.1
  have hh := hL.2.2.2.1 c.1 hC.1.1 (by have := hC.1.2; omega)
  unfold spCost
  split
  · omega
  · rename_i q
    have := (hE.2 (spEndC v c) (by omega) (by omega)).2.2.2
    omega
theorem c_costsDown (d : Nat) {z : zH} (hz : zRR z) {v : Int → Int} (hv : ∀ k, zR (v k)) (hR : LandR z v) (hL : LandI v) (hE : PEnds 7 z v) {c : crft} (hC : okC v c) : cM (d + 3) 91 [xR 26 1, xI (zI (spEndC v c)), xI (zI c.1)] (hI z) = some (zI (spCost v c), hI z) := by
  have har := area hL.1 hL.2.1
  have r3 : z 7 3 = v 7 := hE.1.2.2.1
  have b := spEndC_b v c hE.1.2.2.2.1
  have h7 := hE.1.2.2.2.1
  have ch := fun d => c_houses d hR (c := c.1) ⟨hC.1.1, by have := hC.1.2; omega⟩
  rw [e_X10_costsDown]
  unfold spCost
  rcases b with b | b
  · have c1 := fun d => c_rHas d hz (o := 7) (i := spEndC v c) (zR_s (by omega))
    simp only [zLit, Nat.reduceAdd, c1, xbd_n, zB_0]
    rw [if_pos (by omega), if_pos b]
    simp only [ch, xbd_n, zI_add]
  · have c1 := fun d => c_rHas d hz (o := 7) (i := spEndC v c) (zR_s (by omega))
    have c2 := fun d => c_endN d hz hE (e := spEndC v c) (f := 4) b (by omega)
    simp only [show 152 + 5 * spEndC v c + 4 = 156 + 5 * spEndC v c by omega] at c2
    simp only [zLit, Nat.reduceAdd, c1, xbd_n, zB_0]
    rw [if_neg (by omega), if_neg (by omega)]
    simp only [c2, xbd_n]
    simp only [ch, xbd_n, zI_add]
theorem c_told (d : Nat) {z : zH} (hz : zRR z) {v : Int → Int} (hv : ∀ k, zR (v k)) (hR : LandR z v) (hL : LandI v) (hE : PEnds 7 z v) {c : crft} (hc : crC z 46 = c) (hC : okC v c) {t w : Int} (ht : z 45 2 = t) (hw : 0 ≤ w ∧ w ≤ 4) : cM (d + 6) 20 [xR 19 45, xR 26 1, xI (zI w)] (hI z) = some (zI (spTold v c t w), hI z) := by
  have har := area hL.1 hL.2.1
  have hC1 := hC.1
  have h0 : z 46 0 = c.1 := by rw [← hc]
  have h2 : z 46 2 = c.2.2.1 := by rw [← hc]
  have h3 : z 46 3 = c.2.2.2 := by rw [← hc]
  have cd := fun d => c_isDown d hz hR (o := 46) (hv _) (by rw [h0]; omega)
  have ce := fun d => c_endFor d hz hv hE 46
  have cc := fun d => c_costsDown d hz hv hR hL hE hC
  simp only [h0, h3] at cd
  simp only [h0, h2] at ce
  have e1 : spComesTo v c.1 c.2.2.1 = spEndC v c := rfl
  simp only [e1] at ce
  rw [e_X3_told]
  simp only [zLit, Nat.reduceAdd, hI_fs, h0, ht, cd, xbd_n, zB_0]
  by_cases q : c.2.2.2 ≤ v (24 + c.1)
  · have n0 : ¬ ¬ (c.2.2.2 ≤ v (24 + c.1)) := fun w => w q
    rw [if_neg n0]
    simp only [ce, xbd_n, zB_0, if_neg n0, hI_fs, h0, ht]
    rcases (show w = 0 ∨ w = 1 ∨ w = 2 ∨ w = 3 ∨ w = 4 by omega) with e | e | e | e | e <;> subst e
    · rw [if_pos rfl]
      simp only [spTold, if_true, if_pos q, reduceIte]
    · rw [if_neg (by decide), if_pos rfl]
      simp only [spTold, reduceIte, Int.reduceEq]
    · rw [if_neg (by decide), if_neg (by decide), if_pos rfl]
      simp only [spTold, reduceIte, Int.reduceEq]
    · rw [if_neg (by decide), if_neg (by decide), if_neg (by decide), if_pos rfl]
      simp only [cc, xbd_n]
      simp only [spTold, reduceIte, Int.reduceEq, if_pos q]
    · rw [if_neg (by decide), if_neg (by decide), if_neg (by decide), if_neg (by decide)]
      simp only [spTold, reduceIte, Int.reduceEq, if_pos q]
  · rw [if_pos q]
    simp only [if_pos q, hI_fs, h0, ht]
    rcases (show w = 0 ∨ w = 1 ∨ w = 2 ∨ w = 3 ∨ w = 4 by omega) with e | e | e | e | e <;> subst e
    · rw [if_pos rfl]
      simp only [spTold, reduceIte, Int.reduceEq, if_neg q, zI_neg]
    · rw [if_neg (by decide), if_pos rfl]
      simp only [spTold, reduceIte, Int.reduceEq]
    · rw [if_neg (by decide), if_neg (by decide), if_pos rfl]
      simp only [spTold, reduceIte, Int.reduceEq]
    · rw [if_neg (by decide), if_neg (by decide), if_neg (by decide), if_pos rfl]
      simp only [spTold, reduceIte, Int.reduceEq, if_neg q]
    · rw [if_neg (by decide), if_neg (by decide), if_neg (by decide), if_neg (by decide)]
      simp only [spTold, reduceIte, Int.reduceEq, if_neg q]
theorem m_told (d : Nat) {z : zH} (hz : zRR z) {v : Int → Int} (hv : z 101 = v) (hL : LandI v) {z0 : zH} (hE : PEnds 7 z0 v) {c : crft} (hc : crM z = c) (hC : okC v c) {t w : Int} (ht : z 100 16 = t) (hw : 0 ≤ w ∧ w ≤ 4) : cM (d + 6) 199 [xR 28 100, xI (zI w)] (hI z) = some (zI (spTold v c t w), hI z) := by
  have har := area hL.1 hL.2.1
  have hC1 := hC.1
  have h0 : z 100 5 = c.1 := by rw [← hc]
  have h2 : z 100 7 = c.2.2.1 := by rw [← hc]
  have h3 : z 100 8 = c.2.2.2 := by rw [← hc]
  have b7 := hE.1.2.2.2.1
  have b := spEndC_b v c b7
  have md := fun d => m_isDown d hz (by rw [h0]; omega)
  have mc := fun d => m_comesTo d hz (by rw [hv]; exact b7)
  simp only [h0, h3, hv] at md
  simp only [h0, h2, hv] at mc
  have e1 : spComesTo v c.1 c.2.2.1 = spEndC v c := rfl
  simp only [e1] at mc
  have hh0 : zR 0 := zR_s (by omega)
  have hidx : zR (88 + c.1) := zR_s (by omega)
  have rh : hI z 101 (zI (88 + c.1)).toNatClampNeg = zI (v (88 + c.1)) := by rw [zI_nat hidx, zld (by omega), hv]
  have nb : ¬ (zI (88 + c.1) < zI 0 ∨ 572 ≤ (zI (88 + c.1)).toNatClampNeg) := by rw [zI_lt hidx hh0, zI_nat hidx]; omega
  rw [e_X12_told]
  simp only [zLit, hI_fs, h0, ht, md, xbd_n, zB_0, lenX_s, zI_add]
  by_cases q : c.2.2.2 ≤ v (24 + c.1)
  · have n0 : ¬ ¬ (c.2.2.2 ≤ v (24 + c.1)) := fun w => w q
    rw [if_neg n0]
    simp only [mc, xbd_n, md, zB_0, if_neg n0, hI_fs, h0, ht, zI_add, if_neg nb, rh]
    rcases (show w = 0 ∨ w = 1 ∨ w = 2 ∨ w = 3 ∨ w = 4 by omega) with e | e | e | e | e <;> subst e
    · rw [if_pos rfl]
      simp only [spTold, if_true, if_pos q, reduceIte]
    · rw [if_neg (by decide), if_pos rfl]
      simp only [spTold, reduceIte, Int.reduceEq]
    · rw [if_neg (by decide), if_neg (by decide), if_pos rfl]
      simp only [spTold, reduceIte, Int.reduceEq]
    · rw [if_neg (by decide), if_neg (by decide), if_neg (by decide), if_pos rfl]
      simp only [spTold, reduceIte, Int.reduceEq, if_pos q]
      unfold spCost
      rcases b with b | b
      · rw [if_pos (by rw [b]; decide), if_pos b]
      · have me := fun d => m_end d (z := z) (e := spEndC v c) (f := 4) (by omega) (by omega)
        simp only [show 152 + 5 * spEndC v c + 4 = 156 + 5 * spEndC v c by omega, hv] at me
        have ne9 : ¬ spEndC v c = -9 := by omega
        have ner : zR (spEndC v c) := zR_s (by omega)
        rw [if_neg (by rw [zI_lt ner hh0]; omega), if_neg ne9]
        simp only [me, xbd_n, md, zB_0, if_neg n0, hI_fs, h0, zI_add, if_neg nb, rh]
    · rw [if_neg (by decide), if_neg (by decide), if_neg (by decide), if_neg (by decide)]
      simp only [spTold, reduceIte, Int.reduceEq, if_pos q]
  · rw [if_pos q]
    simp only [md, xbd_n, zB_0, if_pos q, hI_fs, h0, ht, zI_add]
    rcases (show w = 0 ∨ w = 1 ∨ w = 2 ∨ w = 3 ∨ w = 4 by omega) with e | e | e | e | e <;> subst e
    · rw [if_pos rfl]
      simp only [spTold, reduceIte, Int.reduceEq, if_neg q, zI_neg]
    · rw [if_neg (by decide), if_pos rfl]
      simp only [spTold, reduceIte, Int.reduceEq]
    · rw [if_neg (by decide), if_neg (by decide), if_pos rfl]
      simp only [spTold, reduceIte, Int.reduceEq]
    · rw [if_neg (by decide), if_neg (by decide), if_neg (by decide), if_pos rfl]
      simp only [spTold, reduceIte, Int.reduceEq, if_neg q]
      rfl
    · rw [if_neg (by decide), if_neg (by decide), if_neg (by decide), if_neg (by decide)]
      simp only [spTold, reduceIte, Int.reduceEq, if_neg q]
theorem spTold_b {z : zH} {v : Int → Int} {c : crft} {t w : Int} (hL : LandI v) (hE : PEnds 7 z v) (hC : okC v c) (ht : 0 ≤ t ∧ t ≤ 60) : -9 ≤ spTold v c t w ∧ spTold v c t w ≤ 1098 := by
  have har := area hL.1 hL.2.1
  have hC1 := hC.1
  have b := spEndC_b v c hE.1.2.2.2.1
  have b7 := hE.1.2.2.2.1
  have cb := spCost_b hL hE hC
  unfold spTold
  repeat' split
  all_goals omega
theorem fl_ok {z : zH} (h : Inv z) {p s : Int} (hs : s = -1 ∨ (0 ≤ s ∧ s < z 101 9)) : okC (z 101) (spC (z 101) p s) ∧ (0 ≤ (spT (z 101) p s : Int) ∧ (spT (z 101) p s : Int) ≤ 60) := by
  obtain ⟨hz, hW, -⟩ := h
  have hL := hW.1.2
  have hC : PCraft 6 z (z 101) := hW.2.1
  have g := hC.2.2.2.2.2.1
  have hS : PScenes 11 z (z 101) := hW.2.2.2.2.1
  have b := endT_b (v := z 101) (ch := chP (z 101) p) (gv := spGives (z 101) s) (c0 := crV (z 101)) 60 0
  refine ⟨traj_ok hL g (fun k => (spGives_b hS hs).1) chP_may 60 0 g, ?_⟩
  show 0 ≤ ((endT (z 101) (chP (z 101) p) (spGives (z 101) s) (crV (z 101)) 60 0 : Nat) : Int) ∧ ((endT (z 101) (chP (z 101) p) (spGives (z 101) s) (crV (z 101)) 60 0 : Nat) : Int) ≤ 60
  omega
/-- a flight and what is told of it: the class, the model -/
theorem c_flTold (d : Nat) {z : zH} (h : Inv z) {p s : Int} (hp : 0 ≤ p ∧ p < z 101 8) (hs : s = -1 ∨ (0 ≤ s ∧ s < z 101 9)) : xw (cM (d + 6) 16 [xR 19 45, xR 26 1, xI (zI p), xI (zI s)] (hI z)) (fun _ z1 => fr [45, 46, 47, 48] z z1 ∧ Inv z1 ∧ ∀ d w, 0 ≤ w → w ≤ 4 → cM (d + 6) 20 [xR 19 45, xR 26 1, xI (zI w)] (hI z1) = some (zI (spTold (z 101) (spC (z 101) p s) (spT (z 101) p s) w), hI z1)) := by
  have ok := fl_ok h (p := p) hs
  refine xw_m (c_byPlanW d h hp hs) ?_
  intro r z1 hr hz1 ⟨e1, e2, e3, e4, f, n0, n1⟩
  obtain ⟨hz, hW, hK, hT, hO, hSh, hF, hCt⟩ := h
  have hL := hW.1.2
  have hR := RLand_R hW.1.1
  have hE : PEnds 7 z (z 101) := hW.2.2.1
  refine ⟨f, ?_, fun d w w0 w1 => c_told d hz1 (hz 101) (LandR_fr hR f rfl rfl rfl rfl) hL (PEnds_t hE (f 7 rfl) (f 8 rfl) (fun _ _ => rfl)) e1 ok.1 e2 ⟨w0, w1⟩⟩
  have hO' := hO
  obtain ⟨⟨o0, o1, o2, o3⟩, -⟩ := hO'
  exact Inv_scr ⟨hz, hW, hK, hT, hO, hSh, hF, hCt⟩ hz1 (fr_mono f rfl) (by rw [f 100 rfl]) (by rw [f 100 rfl]) (by rw [f 100 rfl]) (by rw [f 100 rfl]) (by rw [f 55 rfl]) (by rw [f 66 rfl]) (by rw [n0, o2]) (by rw [n1, o3])
theorem m_flTold (d : Nat) {z : zH} (h : Inv z) {p s : Int} (hp : 0 ≤ p ∧ p < z 101 8) (hs : s = -1 ∨ (0 ≤ s ∧ s < z 101 9)) : xw (cM (d + 6) 198 [xR 28 100, xI (zI p), xI (zI s)] (hI z)) (fun _ z1 => fr [100, 108, 109] z z1 ∧ Inv z1 ∧ ∀ d w, 0 ≤ w → w ≤ 4 → cM (d + 6) 199 [xR 28 100, xI (zI w)] (hI z1) = some (zI (spTold (z 101) (spC (z 101) p s) (spT (z 101) p s) w), hI z1)) := by
  have ok := fl_ok h (p := p) hs
  refine xw_m (m_flyPlanW d h.1 h.2.1 hp hs) ?_
  intro r z1 hr hz1 ⟨e1, e2, e3, f, g⟩
  have hE : PEnds 7 z (z 101) := h.2.1.2.2.1
  exact ⟨f, Inv_scrM h hz1 (fr_mono f rfl) g rfl rfl rfl rfl, fun d w w0 w1 => m_told d hz1 (f 101 rfl) h.2.1.1.2 hE e1 ok.1 e2 ⟨w0, w1⟩⟩
theorem k_flown {z : zH} (h : Inv z) {p s w : Int} (hp : zR p) (hs : zR s) (hw : zR w) : two 115 200 [xI (zI p), xI (zI s), xI (zI w)] z := by
  have hI0 := h
  obtain ⟨hz, hW, hK, hT, hO, hSh, hF, hCt⟩ := h
  have hP : PPlans 9 z (z 101) := hW.2.2.2.1
  have hS : PScenes 11 z (z 101) := hW.2.2.2.2.1
  have r9 : z 9 3 = z 101 8 := hP.1.2.2.1
  have r11 : z 11 3 = z 101 9 := hS.1.2.2.1
  have b8 := hP.1.2.2.2
  have b9 := hS.1.2.2.2.1
  by_cases q : (0 ≤ p ∧ p < z 101 8) ∧ (s = -1 ∨ (0 ≤ s ∧ s < z 101 9)) ∧ (0 ≤ w ∧ w ≤ 4)
  · obtain ⟨qp, qs, qw⟩ := q
    have ok := fl_ok hI0 (p := p) qs
    have tb := spTold_b (t := (spT (z 101) p s : Int)) (w := w) hW.1.2 hW.2.2.1 ok.1 ok.2
    have htr : zR (spTold (z 101) (spC (z 101) p s) (spT (z 101) p s) w) := zR_s (by omega)
    refine xw_m (P := fun r z1 => r = spTold (z 101) (spC (z 101) p s) (spT (z 101) p s) w ∧ fr [45, 46, 47, 48] z z1 ∧ Inv z1) ?_ ?_
    · rw [e_X11_flown]
      by_cases qm : s = -1
      · repeat' (first | (with_reducible apply xw_f; (case h => (first | (simp (disch := (first | exact hz _ _ | exact hv _ | exact hL | assumption | (simp (disch := decide) only [zup_ne]; exact hL) | (simp only [zR]; omega) | omega)) only [zLit, zI_div, hI_fs, hI_us, zI_add, zI_sub, zI_mul, zI_neg, zI_lt, zI_eq, zI_ite, xbd_s, zI_nat, zld, zst, zbd, zB_0, zB_1, lenX_s, zup_at, xgd, cond_true, cond_false, and_self, and_true, true_and, false_and, and_false, or_self, or_false, false_or, if_true, if_false, ite_true, ite_false, reduceIte, reduceCtorEq, Nat.reduceEqDiff, Nat.reduceAdd, Nat.reduceMul, Int.reduceNeg, Int.reduceAdd, Int.reduceSub, Int.reduceMul, Int.reduceLT, Int.reduceLE, Int.reduceEq, Int.reduceDiv, Int.reduceMod, Int.reduceToNat, Int.toNat_zero, Int.toNat_one, Nat.reduceLeDiff, Nat.reduceLT, ite_not, not_true, not_false_eq_true, r9] <;> omega) | omega))) | (with_reducible apply xw_t; (case h => (first | (simp (disch := (first | exact hz _ _ | exact hv _ | exact hL | assumption | (simp (disch := decide) only [zup_ne]; exact hL) | (simp only [zR]; omega) | omega)) only [zLit, zI_div, hI_fs, hI_us, zI_add, zI_sub, zI_mul, zI_neg, zI_lt, zI_eq, zI_ite, xbd_s, zI_nat, zld, zst, zbd, zB_0, zB_1, lenX_s, zup_at, xgd, cond_true, cond_false, and_self, and_true, true_and, false_and, and_false, or_self, or_false, false_or, if_true, if_false, ite_true, ite_false, reduceIte, reduceCtorEq, Nat.reduceEqDiff, Nat.reduceAdd, Nat.reduceMul, Int.reduceNeg, Int.reduceAdd, Int.reduceSub, Int.reduceMul, Int.reduceLT, Int.reduceLE, Int.reduceEq, Int.reduceDiv, Int.reduceMod, Int.reduceToNat, Int.toNat_zero, Int.toNat_one, Nat.reduceLeDiff, Nat.reduceLT, ite_not, not_true, not_false_eq_true, r9] <;> omega) | omega))) | (with_reducible apply xw_b; (case h => (simp (disch := (first | exact hz _ _ | exact hv _ | exact hL | assumption | (simp (disch := decide) only [zup_ne]; exact hL) | (simp only [zR]; omega) | omega)) only [zLit, zI_div, hI_fs, hI_us, zI_add, zI_sub, zI_mul, zI_neg, zI_lt, zI_eq, zI_ite, xbd_s, zI_nat, zld, zst, zbd, zB_0, zB_1, lenX_s, zup_at, xgd, cond_true, cond_false, and_self, and_true, true_and, false_and, and_false, or_self, or_false, false_or, if_true, if_false, ite_true, ite_false, reduceIte, reduceCtorEq, Nat.reduceEqDiff, Nat.reduceAdd, Nat.reduceMul, Int.reduceNeg, Int.reduceAdd, Int.reduceSub, Int.reduceMul, Int.reduceLT, Int.reduceLE, Int.reduceEq, Int.reduceDiv, Int.reduceMod, Int.reduceToNat, Int.toNat_zero, Int.toNat_one, Nat.reduceLeDiff, Nat.reduceLT, ite_not, not_true, not_false_eq_true, r9, c_rHas, c_within]; rfl)); try dsimp only) | (with_reducible apply xw_c <;> intro q9 <;> (try simp (disch := (first | exact hz _ _ | exact hv _ | exact hL | assumption | (simp (disch := decide) only [zup_ne]; exact hL) | (simp only [zR]; omega) | omega)) only [zLit, zI_div, hI_fs, hI_us, zI_add, zI_sub, zI_mul, zI_neg, zI_lt, zI_eq, zI_ite, xbd_s, zI_nat, zld, zst, zbd, zB_0, zB_1, lenX_s, zup_at, xgd, cond_true, cond_false, and_self, and_true, true_and, false_and, and_false, or_self, or_false, false_or, if_true, if_false, ite_true, ite_false, reduceIte, reduceCtorEq, Nat.reduceEqDiff, Nat.reduceAdd, Nat.reduceMul, Int.reduceNeg, Int.reduceAdd, Int.reduceSub, Int.reduceMul, Int.reduceLT, Int.reduceLE, Int.reduceEq, Int.reduceDiv, Int.reduceMod, Int.reduceToNat, Int.toNat_zero, Int.toNat_one, Nat.reduceLeDiff, Nat.reduceLT, ite_not, not_true, not_false_eq_true, r9] at q9)))
        refine xw_k (c_flTold 53 hI0 qp qs) ?_
        intro r z1 hr hz1 ⟨f, inv, ct⟩
        simp only [ct 53 w qw.1 qw.2, xbd_n]
        exact xw_ret htr hz1 ⟨rfl, f, inv⟩
      · repeat' (first | (with_reducible apply xw_f; (case h => (first | (simp (disch := (first | exact hz _ _ | exact hv _ | exact hL | assumption | (simp (disch := decide) only [zup_ne]; exact hL) | (simp only [zR]; omega) | omega)) only [zLit, zI_div, hI_fs, hI_us, zI_add, zI_sub, zI_mul, zI_neg, zI_lt, zI_eq, zI_ite, xbd_s, zI_nat, zld, zst, zbd, zB_0, zB_1, lenX_s, zup_at, xgd, cond_true, cond_false, and_self, and_true, true_and, false_and, and_false, or_self, or_false, false_or, if_true, if_false, ite_true, ite_false, reduceIte, reduceCtorEq, Nat.reduceEqDiff, Nat.reduceAdd, Nat.reduceMul, Int.reduceNeg, Int.reduceAdd, Int.reduceSub, Int.reduceMul, Int.reduceLT, Int.reduceLE, Int.reduceEq, Int.reduceDiv, Int.reduceMod, Int.reduceToNat, Int.toNat_zero, Int.toNat_one, Nat.reduceLeDiff, Nat.reduceLT, ite_not, not_true, not_false_eq_true, r9, r11] <;> omega) | omega))) | (with_reducible apply xw_t; (case h => (first | (simp (disch := (first | exact hz _ _ | exact hv _ | exact hL | assumption | (simp (disch := decide) only [zup_ne]; exact hL) | (simp only [zR]; omega) | omega)) only [zLit, zI_div, hI_fs, hI_us, zI_add, zI_sub, zI_mul, zI_neg, zI_lt, zI_eq, zI_ite, xbd_s, zI_nat, zld, zst, zbd, zB_0, zB_1, lenX_s, zup_at, xgd, cond_true, cond_false, and_self, and_true, true_and, false_and, and_false, or_self, or_false, false_or, if_true, if_false, ite_true, ite_false, reduceIte, reduceCtorEq, Nat.reduceEqDiff, Nat.reduceAdd, Nat.reduceMul, Int.reduceNeg, Int.reduceAdd, Int.reduceSub, Int.reduceMul, Int.reduceLT, Int.reduceLE, Int.reduceEq, Int.reduceDiv, Int.reduceMod, Int.reduceToNat, Int.toNat_zero, Int.toNat_one, Nat.reduceLeDiff, Nat.reduceLT, ite_not, not_true, not_false_eq_true, r9, r11] <;> omega) | omega))) | (with_reducible apply xw_b; (case h => (simp (disch := (first | exact hz _ _ | exact hv _ | exact hL | assumption | (simp (disch := decide) only [zup_ne]; exact hL) | (simp only [zR]; omega) | omega)) only [zLit, zI_div, hI_fs, hI_us, zI_add, zI_sub, zI_mul, zI_neg, zI_lt, zI_eq, zI_ite, xbd_s, zI_nat, zld, zst, zbd, zB_0, zB_1, lenX_s, zup_at, xgd, cond_true, cond_false, and_self, and_true, true_and, false_and, and_false, or_self, or_false, false_or, if_true, if_false, ite_true, ite_false, reduceIte, reduceCtorEq, Nat.reduceEqDiff, Nat.reduceAdd, Nat.reduceMul, Int.reduceNeg, Int.reduceAdd, Int.reduceSub, Int.reduceMul, Int.reduceLT, Int.reduceLE, Int.reduceEq, Int.reduceDiv, Int.reduceMod, Int.reduceToNat, Int.toNat_zero, Int.toNat_one, Nat.reduceLeDiff, Nat.reduceLT, ite_not, not_true, not_false_eq_true, r9, r11, c_rHas, c_within]; rfl)); try dsimp only) | (with_reducible apply xw_c <;> intro q9 <;> (try simp (disch := (first | exact hz _ _ | exact hv _ | exact hL | assumption | (simp (disch := decide) only [zup_ne]; exact hL) | (simp only [zR]; omega) | omega)) only [zLit, zI_div, hI_fs, hI_us, zI_add, zI_sub, zI_mul, zI_neg, zI_lt, zI_eq, zI_ite, xbd_s, zI_nat, zld, zst, zbd, zB_0, zB_1, lenX_s, zup_at, xgd, cond_true, cond_false, and_self, and_true, true_and, false_and, and_false, or_self, or_false, false_or, if_true, if_false, ite_true, ite_false, reduceIte, reduceCtorEq, Nat.reduceEqDiff, Nat.reduceAdd, Nat.reduceMul, Int.reduceNeg, Int.reduceAdd, Int.reduceSub, Int.reduceMul, Int.reduceLT, Int.reduceLE, Int.reduceEq, Int.reduceDiv, Int.reduceMod, Int.reduceToNat, Int.toNat_zero, Int.toNat_one, Nat.reduceLeDiff, Nat.reduceLT, ite_not, not_true, not_false_eq_true, r9, r11] at q9)))
        refine xw_k (c_flTold 53 hI0 qp qs) ?_
        intro r z1 hr hz1 ⟨f, inv, ct⟩
        simp only [ct 53 w qw.1 qw.2, xbd_n]
        exact xw_ret htr hz1 ⟨rfl, f, inv⟩
    · intro r z1 hr hz1 ⟨e, f, inv⟩
      have e1 : z1 101 = z 101 := f 101 rfl
      have qp1 : 0 ≤ p ∧ p < z1 101 8 := by rw [e1]; exact qp
      have qs1 : s = -1 ∨ (0 ≤ s ∧ s < z1 101 9) := by rw [e1]; exact qs
      have b81 : 0 ≤ z1 101 8 ∧ z1 101 8 ≤ 4 := by rw [e1]; exact b8
      have b91 : 0 ≤ z1 101 9 ∧ z1 101 9 ≤ 5 := by rw [e1]; exact b9
      have hz := hz1
      rw [e_X12_flown]
      by_cases qm : s = -1
      · repeat' (first | (with_reducible apply xw_f; (case h => (first | (simp (disch := (first | exact hz _ _ | exact hv _ | exact hL | assumption | (simp (disch := decide) only [zup_ne]; exact hL) | (simp only [zR]; omega) | omega)) only [zLit, zI_div, hI_fs, hI_us, zI_add, zI_sub, zI_mul, zI_neg, zI_lt, zI_eq, zI_ite, xbd_s, zI_nat, zld, zst, zbd, zB_0, zB_1, lenX_s, zup_at, xgd, cond_true, cond_false, and_self, and_true, true_and, false_and, and_false, or_self, or_false, false_or, if_true, if_false, ite_true, ite_false, reduceIte, reduceCtorEq, Nat.reduceEqDiff, Nat.reduceAdd, Nat.reduceMul, Int.reduceNeg, Int.reduceAdd, Int.reduceSub, Int.reduceMul, Int.reduceLT, Int.reduceLE, Int.reduceEq, Int.reduceDiv, Int.reduceMod, Int.reduceToNat, Int.toNat_zero, Int.toNat_one, Nat.reduceLeDiff, Nat.reduceLT, ite_not, not_true, not_false_eq_true] <;> omega) | omega))) | (with_reducible apply xw_t; (case h => (first | (simp (disch := (first | exact hz _ _ | exact hv _ | exact hL | assumption | (simp (disch := decide) only [zup_ne]; exact hL) | (simp only [zR]; omega) | omega)) only [zLit, zI_div, hI_fs, hI_us, zI_add, zI_sub, zI_mul, zI_neg, zI_lt, zI_eq, zI_ite, xbd_s, zI_nat, zld, zst, zbd, zB_0, zB_1, lenX_s, zup_at, xgd, cond_true, cond_false, and_self, and_true, true_and, false_and, and_false, or_self, or_false, false_or, if_true, if_false, ite_true, ite_false, reduceIte, reduceCtorEq, Nat.reduceEqDiff, Nat.reduceAdd, Nat.reduceMul, Int.reduceNeg, Int.reduceAdd, Int.reduceSub, Int.reduceMul, Int.reduceLT, Int.reduceLE, Int.reduceEq, Int.reduceDiv, Int.reduceMod, Int.reduceToNat, Int.toNat_zero, Int.toNat_one, Nat.reduceLeDiff, Nat.reduceLT, ite_not, not_true, not_false_eq_true] <;> omega) | omega))) | (with_reducible apply xw_b; (case h => (simp (disch := (first | exact hz _ _ | exact hv _ | exact hL | assumption | (simp (disch := decide) only [zup_ne]; exact hL) | (simp only [zR]; omega) | omega)) only [zLit, zI_div, hI_fs, hI_us, zI_add, zI_sub, zI_mul, zI_neg, zI_lt, zI_eq, zI_ite, xbd_s, zI_nat, zld, zst, zbd, zB_0, zB_1, lenX_s, zup_at, xgd, cond_true, cond_false, and_self, and_true, true_and, false_and, and_false, or_self, or_false, false_or, if_true, if_false, ite_true, ite_false, reduceIte, reduceCtorEq, Nat.reduceEqDiff, Nat.reduceAdd, Nat.reduceMul, Int.reduceNeg, Int.reduceAdd, Int.reduceSub, Int.reduceMul, Int.reduceLT, Int.reduceLE, Int.reduceEq, Int.reduceDiv, Int.reduceMod, Int.reduceToNat, Int.toNat_zero, Int.toNat_one, Nat.reduceLeDiff, Nat.reduceLT, ite_not, not_true, not_false_eq_true, m_is, m_within]; rfl)); try dsimp only) | (with_reducible apply xw_c <;> intro q9 <;> (try simp (disch := (first | exact hz _ _ | exact hv _ | exact hL | assumption | (simp (disch := decide) only [zup_ne]; exact hL) | (simp only [zR]; omega) | omega)) only [zLit, zI_div, hI_fs, hI_us, zI_add, zI_sub, zI_mul, zI_neg, zI_lt, zI_eq, zI_ite, xbd_s, zI_nat, zld, zst, zbd, zB_0, zB_1, lenX_s, zup_at, xgd, cond_true, cond_false, and_self, and_true, true_and, false_and, and_false, or_self, or_false, false_or, if_true, if_false, ite_true, ite_false, reduceIte, reduceCtorEq, Nat.reduceEqDiff, Nat.reduceAdd, Nat.reduceMul, Int.reduceNeg, Int.reduceAdd, Int.reduceSub, Int.reduceMul, Int.reduceLT, Int.reduceLE, Int.reduceEq, Int.reduceDiv, Int.reduceMod, Int.reduceToNat, Int.toNat_zero, Int.toNat_one, Nat.reduceLeDiff, Nat.reduceLT, ite_not, not_true, not_false_eq_true] at q9)))
        refine xw_k (m_flTold 53 inv qp1 qs1) ?_
        intro r2 z2 hr2 hz2 ⟨f2, inv2, ct⟩
        rw [e1] at ct
        simp only [ct 53 w qw.1 qw.2, xbd_n]
        exact xw_ret htr hz2 ⟨e.symm, inv2⟩
      · repeat' (first | (with_reducible apply xw_f; (case h => (first | (simp (disch := (first | exact hz _ _ | exact hv _ | exact hL | assumption | (simp (disch := decide) only [zup_ne]; exact hL) | (simp only [zR]; omega) | omega)) only [zLit, zI_div, hI_fs, hI_us, zI_add, zI_sub, zI_mul, zI_neg, zI_lt, zI_eq, zI_ite, xbd_s, zI_nat, zld, zst, zbd, zB_0, zB_1, lenX_s, zup_at, xgd, cond_true, cond_false, and_self, and_true, true_and, false_and, and_false, or_self, or_false, false_or, if_true, if_false, ite_true, ite_false, reduceIte, reduceCtorEq, Nat.reduceEqDiff, Nat.reduceAdd, Nat.reduceMul, Int.reduceNeg, Int.reduceAdd, Int.reduceSub, Int.reduceMul, Int.reduceLT, Int.reduceLE, Int.reduceEq, Int.reduceDiv, Int.reduceMod, Int.reduceToNat, Int.toNat_zero, Int.toNat_one, Nat.reduceLeDiff, Nat.reduceLT, ite_not, not_true, not_false_eq_true] <;> omega) | omega))) | (with_reducible apply xw_t; (case h => (first | (simp (disch := (first | exact hz _ _ | exact hv _ | exact hL | assumption | (simp (disch := decide) only [zup_ne]; exact hL) | (simp only [zR]; omega) | omega)) only [zLit, zI_div, hI_fs, hI_us, zI_add, zI_sub, zI_mul, zI_neg, zI_lt, zI_eq, zI_ite, xbd_s, zI_nat, zld, zst, zbd, zB_0, zB_1, lenX_s, zup_at, xgd, cond_true, cond_false, and_self, and_true, true_and, false_and, and_false, or_self, or_false, false_or, if_true, if_false, ite_true, ite_false, reduceIte, reduceCtorEq, Nat.reduceEqDiff, Nat.reduceAdd, Nat.reduceMul, Int.reduceNeg, Int.reduceAdd, Int.reduceSub, Int.reduceMul, Int.reduceLT, Int.reduceLE, Int.reduceEq, Int.reduceDiv, Int.reduceMod, Int.reduceToNat, Int.toNat_zero, Int.toNat_one, Nat.reduceLeDiff, Nat.reduceLT, ite_not, not_true, not_false_eq_true] <;> omega) | omega))) | (with_reducible apply xw_b; (case h => (simp (disch := (first | exact hz _ _ | exact hv _ | exact hL | assumption | (simp (disch := decide) only [zup_ne]; exact hL) | (simp only [zR]; omega) | omega)) only [zLit, zI_div, hI_fs, hI_us, zI_add, zI_sub, zI_mul, zI_neg, zI_lt, zI_eq, zI_ite, xbd_s, zI_nat, zld, zst, zbd, zB_0, zB_1, lenX_s, zup_at, xgd, cond_true, cond_false, and_self, and_true, true_and, false_and, and_false, or_self, or_false, false_or, if_true, if_false, ite_true, ite_false, reduceIte, reduceCtorEq, Nat.reduceEqDiff, Nat.reduceAdd, Nat.reduceMul, Int.reduceNeg, Int.reduceAdd, Int.reduceSub, Int.reduceMul, Int.reduceLT, Int.reduceLE, Int.reduceEq, Int.reduceDiv, Int.reduceMod, Int.reduceToNat, Int.toNat_zero, Int.toNat_one, Nat.reduceLeDiff, Nat.reduceLT, ite_not, not_true, not_false_eq_true, m_is, m_within]; rfl)); try dsimp only) | (with_reducible apply xw_c <;> intro q9 <;> (try simp (disch := (first | exact hz _ _ | exact hv _ | exact hL | assumption | (simp (disch := decide) only [zup_ne]; exact hL) | (simp only [zR]; omega) | omega)) only [zLit, zI_div, hI_fs, hI_us, zI_add, zI_sub, zI_mul, zI_neg, zI_lt, zI_eq, zI_ite, xbd_s, zI_nat, zld, zst, zbd, zB_0, zB_1, lenX_s, zup_at, xgd, cond_true, cond_false, and_self, and_true, true_and, false_and, and_false, or_self, or_false, false_or, if_true, if_false, ite_true, ite_false, reduceIte, reduceCtorEq, Nat.reduceEqDiff, Nat.reduceAdd, Nat.reduceMul, Int.reduceNeg, Int.reduceAdd, Int.reduceSub, Int.reduceMul, Int.reduceLT, Int.reduceLE, Int.reduceEq, Int.reduceDiv, Int.reduceMod, Int.reduceToNat, Int.toNat_zero, Int.toNat_one, Nat.reduceLeDiff, Nat.reduceLT, ite_not, not_true, not_false_eq_true] at q9)))
        refine xw_k (m_flTold 53 inv qp1 qs1) ?_
        intro r2 z2 hr2 hz2 ⟨f2, inv2, ct⟩
        rw [e1] at ct
        simp only [ct 53 w qw.1 qw.2, xbd_n]
        exact xw_ret htr hz2 ⟨e.symm, inv2⟩
  · refine two_ro hI0 (-1) (by simp only [zR]; omega) ?_ ?_
    · rw [e_X11_flown]
      repeat' (first | (with_reducible apply hs_f; (case h => (first | (simp (disch := (first | exact hz _ _ | exact hv _ | exact hL | assumption | (simp (disch := decide) only [zup_ne]; exact hL) | (simp only [zR]; omega) | omega)) only [zLit, zI_div, hI_fs, hI_us, zI_add, zI_sub, zI_mul, zI_neg, zI_lt, zI_eq, zI_ite, xbd_s, zI_nat, zld, zst, zbd, zB_0, zB_1, lenX_s, zup_at, xgd, cond_true, cond_false, and_self, and_true, true_and, false_and, and_false, or_self, or_false, false_or, if_true, if_false, ite_true, ite_false, reduceIte, reduceCtorEq, Nat.reduceEqDiff, Nat.reduceAdd, Nat.reduceMul, Int.reduceNeg, Int.reduceAdd, Int.reduceSub, Int.reduceMul, Int.reduceLT, Int.reduceLE, Int.reduceEq, Int.reduceDiv, Int.reduceMod, Int.reduceToNat, Int.toNat_zero, Int.toNat_one, Nat.reduceLeDiff, Nat.reduceLT, ite_not, not_true, not_false_eq_true, r9, r11] <;> omega) | omega))) | (with_reducible apply hs_t; (case h => (first | (simp (disch := (first | exact hz _ _ | exact hv _ | exact hL | assumption | (simp (disch := decide) only [zup_ne]; exact hL) | (simp only [zR]; omega) | omega)) only [zLit, zI_div, hI_fs, hI_us, zI_add, zI_sub, zI_mul, zI_neg, zI_lt, zI_eq, zI_ite, xbd_s, zI_nat, zld, zst, zbd, zB_0, zB_1, lenX_s, zup_at, xgd, cond_true, cond_false, and_self, and_true, true_and, false_and, and_false, or_self, or_false, false_or, if_true, if_false, ite_true, ite_false, reduceIte, reduceCtorEq, Nat.reduceEqDiff, Nat.reduceAdd, Nat.reduceMul, Int.reduceNeg, Int.reduceAdd, Int.reduceSub, Int.reduceMul, Int.reduceLT, Int.reduceLE, Int.reduceEq, Int.reduceDiv, Int.reduceMod, Int.reduceToNat, Int.toNat_zero, Int.toNat_one, Nat.reduceLeDiff, Nat.reduceLT, ite_not, not_true, not_false_eq_true, r9, r11] <;> omega) | omega))) | (with_reducible apply hs_b; (case h => (simp (disch := (first | exact hz _ _ | exact hv _ | exact hL | assumption | (simp (disch := decide) only [zup_ne]; exact hL) | (simp only [zR]; omega) | omega)) only [zLit, zI_div, hI_fs, hI_us, zI_add, zI_sub, zI_mul, zI_neg, zI_lt, zI_eq, zI_ite, xbd_s, zI_nat, zld, zst, zbd, zB_0, zB_1, lenX_s, zup_at, xgd, cond_true, cond_false, and_self, and_true, true_and, false_and, and_false, or_self, or_false, false_or, if_true, if_false, ite_true, ite_false, reduceIte, reduceCtorEq, Nat.reduceEqDiff, Nat.reduceAdd, Nat.reduceMul, Int.reduceNeg, Int.reduceAdd, Int.reduceSub, Int.reduceMul, Int.reduceLT, Int.reduceLE, Int.reduceEq, Int.reduceDiv, Int.reduceMod, Int.reduceToNat, Int.toNat_zero, Int.toNat_one, Nat.reduceLeDiff, Nat.reduceLT, ite_not, not_true, not_false_eq_true, r9, r11, c_rHas, c_within]; rfl)); try dsimp only) | (with_reducible apply hs_c <;> intro q9 <;> (try simp (disch := (first | exact hz _ _ | exact hv _ | exact hL | assumption | (simp (disch := decide) only [zup_ne]; exact hL) | (simp only [zR]; omega) | omega)) only [zLit, zI_div, hI_fs, hI_us, zI_add, zI_sub, zI_mul, zI_neg, zI_lt, zI_eq, zI_ite, xbd_s, zI_nat, zld, zst, zbd, zB_0, zB_1, lenX_s, zup_at, xgd, cond_true, cond_false, and_self, and_true, true_and, false_and, and_false, or_self, or_false, false_or, if_true, if_false, ite_true, ite_false, reduceIte, reduceCtorEq, Nat.reduceEqDiff, Nat.reduceAdd, Nat.reduceMul, Int.reduceNeg, Int.reduceAdd, Int.reduceSub, Int.reduceMul, Int.reduceLT, Int.reduceLE, Int.reduceEq, Int.reduceDiv, Int.reduceMod, Int.reduceToNat, Int.toNat_zero, Int.toNat_one, Nat.reduceLeDiff, Nat.reduceLT, ite_not, not_true, not_false_eq_true, r9, r11] at q9)))
      all_goals first | rfl | omega | (simp (maxSteps := 3000000) (disch := (first | exact hz _ _ | exact hv _ | exact hL | assumption | (simp (disch := decide) only [zup_ne]; exact hL) | (simp only [zR]; omega) | omega)) only [zLit, zI_div, hI_fs, hI_us, zI_add, zI_sub, zI_mul, zI_neg, zI_lt, zI_eq, zI_ite, xbd_s, zI_nat, zld, zst, zbd, zB_0, zB_1, lenX_s, zup_at, xgd, cond_true, cond_false, and_self, and_true, true_and, false_and, and_false, or_self, or_false, false_or, if_true, if_false, ite_true, ite_false, reduceIte, reduceCtorEq, Nat.reduceEqDiff, Nat.reduceAdd, Nat.reduceMul, Int.reduceNeg, Int.reduceAdd, Int.reduceSub, Int.reduceMul, Int.reduceLT, Int.reduceLE, Int.reduceEq, Int.reduceDiv, Int.reduceMod, Int.reduceToNat, Int.toNat_zero, Int.toNat_one, Nat.reduceLeDiff, Nat.reduceLT, ite_not, not_true, not_false_eq_true]; done) | (simp (maxSteps := 3000000) (disch := (first | exact hz _ _ | exact hv _ | exact hL | assumption | (simp (disch := decide) only [zup_ne]; exact hL) | (simp only [zR]; omega) | omega)) only [zLit, zI_div, hI_fs, hI_us, zI_add, zI_sub, zI_mul, zI_neg, zI_lt, zI_eq, zI_ite, xbd_s, zI_nat, zld, zst, zbd, zB_0, zB_1, lenX_s, zup_at, xgd, cond_true, cond_false, and_self, and_true, true_and, false_and, and_false, or_self, or_false, false_or, if_true, if_false, ite_true, ite_false, reduceIte, reduceCtorEq, Nat.reduceEqDiff, Nat.reduceAdd, Nat.reduceMul, Int.reduceNeg, Int.reduceAdd, Int.reduceSub, Int.reduceMul, Int.reduceLT, Int.reduceLE, Int.reduceEq, Int.reduceDiv, Int.reduceMod, Int.reduceToNat, Int.toNat_zero, Int.toNat_one, Nat.reduceLeDiff, Nat.reduceLT, ite_not, not_true, not_false_eq_true]; rfl)
    · rw [e_X12_flown]
      repeat' (first | (with_reducible apply hs_f; (case h => (first | (simp (disch := (first | exact hz _ _ | exact hv _ | exact hL | assumption | (simp (disch := decide) only [zup_ne]; exact hL) | (simp only [zR]; omega) | omega)) only [zLit, zI_div, hI_fs, hI_us, zI_add, zI_sub, zI_mul, zI_neg, zI_lt, zI_eq, zI_ite, xbd_s, zI_nat, zld, zst, zbd, zB_0, zB_1, lenX_s, zup_at, xgd, cond_true, cond_false, and_self, and_true, true_and, false_and, and_false, or_self, or_false, false_or, if_true, if_false, ite_true, ite_false, reduceIte, reduceCtorEq, Nat.reduceEqDiff, Nat.reduceAdd, Nat.reduceMul, Int.reduceNeg, Int.reduceAdd, Int.reduceSub, Int.reduceMul, Int.reduceLT, Int.reduceLE, Int.reduceEq, Int.reduceDiv, Int.reduceMod, Int.reduceToNat, Int.toNat_zero, Int.toNat_one, Nat.reduceLeDiff, Nat.reduceLT, ite_not, not_true, not_false_eq_true] <;> omega) | omega))) | (with_reducible apply hs_t; (case h => (first | (simp (disch := (first | exact hz _ _ | exact hv _ | exact hL | assumption | (simp (disch := decide) only [zup_ne]; exact hL) | (simp only [zR]; omega) | omega)) only [zLit, zI_div, hI_fs, hI_us, zI_add, zI_sub, zI_mul, zI_neg, zI_lt, zI_eq, zI_ite, xbd_s, zI_nat, zld, zst, zbd, zB_0, zB_1, lenX_s, zup_at, xgd, cond_true, cond_false, and_self, and_true, true_and, false_and, and_false, or_self, or_false, false_or, if_true, if_false, ite_true, ite_false, reduceIte, reduceCtorEq, Nat.reduceEqDiff, Nat.reduceAdd, Nat.reduceMul, Int.reduceNeg, Int.reduceAdd, Int.reduceSub, Int.reduceMul, Int.reduceLT, Int.reduceLE, Int.reduceEq, Int.reduceDiv, Int.reduceMod, Int.reduceToNat, Int.toNat_zero, Int.toNat_one, Nat.reduceLeDiff, Nat.reduceLT, ite_not, not_true, not_false_eq_true] <;> omega) | omega))) | (with_reducible apply hs_b; (case h => (simp (disch := (first | exact hz _ _ | exact hv _ | exact hL | assumption | (simp (disch := decide) only [zup_ne]; exact hL) | (simp only [zR]; omega) | omega)) only [zLit, zI_div, hI_fs, hI_us, zI_add, zI_sub, zI_mul, zI_neg, zI_lt, zI_eq, zI_ite, xbd_s, zI_nat, zld, zst, zbd, zB_0, zB_1, lenX_s, zup_at, xgd, cond_true, cond_false, and_self, and_true, true_and, false_and, and_false, or_self, or_false, false_or, if_true, if_false, ite_true, ite_false, reduceIte, reduceCtorEq, Nat.reduceEqDiff, Nat.reduceAdd, Nat.reduceMul, Int.reduceNeg, Int.reduceAdd, Int.reduceSub, Int.reduceMul, Int.reduceLT, Int.reduceLE, Int.reduceEq, Int.reduceDiv, Int.reduceMod, Int.reduceToNat, Int.toNat_zero, Int.toNat_one, Nat.reduceLeDiff, Nat.reduceLT, ite_not, not_true, not_false_eq_true, m_is, m_within]; rfl)); try dsimp only) | (with_reducible apply hs_c <;> intro q9 <;> (try simp (disch := (first | exact hz _ _ | exact hv _ | exact hL | assumption | (simp (disch := decide) only [zup_ne]; exact hL) | (simp only [zR]; omega) | omega)) only [zLit, zI_div, hI_fs, hI_us, zI_add, zI_sub, zI_mul, zI_neg, zI_lt, zI_eq, zI_ite, xbd_s, zI_nat, zld, zst, zbd, zB_0, zB_1, lenX_s, zup_at, xgd, cond_true, cond_false, and_self, and_true, true_and, false_and, and_false, or_self, or_false, false_or, if_true, if_false, ite_true, ite_false, reduceIte, reduceCtorEq, Nat.reduceEqDiff, Nat.reduceAdd, Nat.reduceMul, Int.reduceNeg, Int.reduceAdd, Int.reduceSub, Int.reduceMul, Int.reduceLT, Int.reduceLE, Int.reduceEq, Int.reduceDiv, Int.reduceMod, Int.reduceToNat, Int.toNat_zero, Int.toNat_one, Nat.reduceLeDiff, Nat.reduceLT, ite_not, not_true, not_false_eq_true] at q9)))
      all_goals first | rfl | omega | (simp (maxSteps := 3000000) (disch := (first | exact hz _ _ | exact hv _ | exact hL | assumption | (simp (disch := decide) only [zup_ne]; exact hL) | (simp only [zR]; omega) | omega)) only [zLit, zI_div, hI_fs, hI_us, zI_add, zI_sub, zI_mul, zI_neg, zI_lt, zI_eq, zI_ite, xbd_s, zI_nat, zld, zst, zbd, zB_0, zB_1, lenX_s, zup_at, xgd, cond_true, cond_false, and_self, and_true, true_and, false_and, and_false, or_self, or_false, false_or, if_true, if_false, ite_true, ite_false, reduceIte, reduceCtorEq, Nat.reduceEqDiff, Nat.reduceAdd, Nat.reduceMul, Int.reduceNeg, Int.reduceAdd, Int.reduceSub, Int.reduceMul, Int.reduceLT, Int.reduceLE, Int.reduceEq, Int.reduceDiv, Int.reduceMod, Int.reduceToNat, Int.toNat_zero, Int.toNat_one, Nat.reduceLeDiff, Nat.reduceLT, ite_not, not_true, not_false_eq_true]; done) | (simp (maxSteps := 3000000) (disch := (first | exact hz _ _ | exact hv _ | exact hL | assumption | (simp (disch := decide) only [zup_ne]; exact hL) | (simp only [zR]; omega) | omega)) only [zLit, zI_div, hI_fs, hI_us, zI_add, zI_sub, zI_mul, zI_neg, zI_lt, zI_eq, zI_ite, xbd_s, zI_nat, zld, zst, zbd, zB_0, zB_1, lenX_s, zup_at, xgd, cond_true, cond_false, and_self, and_true, true_and, false_and, and_false, or_self, or_false, false_or, if_true, if_false, ite_true, ite_false, reduceIte, reduceCtorEq, Nat.reduceEqDiff, Nat.reduceAdd, Nat.reduceMul, Int.reduceNeg, Int.reduceAdd, Int.reduceSub, Int.reduceMul, Int.reduceLT, Int.reduceLE, Int.reduceEq, Int.reduceDiv, Int.reduceMod, Int.reduceToNat, Int.toNat_zero, Int.toNat_one, Nat.reduceLeDiff, Nat.reduceLT, ite_not, not_true, not_false_eq_true]; rfl)
