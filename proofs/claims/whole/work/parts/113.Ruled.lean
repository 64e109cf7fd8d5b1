/-! PURE, part 43: flights by hands, ruled -/
theorem HB_t {z z' : zH} {v : Int → Int} {B : LB} (h : HB 13 z v B) (f : fr [45, 46, 47, 48] z z') : HB 13 z' v B := by
  have e0 : z' 13 = z 13 := f 13 rfl
  have e1 : z' (13 + 1) = z (13 + 1) := f 14 rfl
  have e2 : z' (13 + 2) = z (13 + 2) := f 15 rfl
  have e3 : z' (13 + 3) = z (13 + 3) := f 16 rfl
  unfold HB at *
  rw [e0, e1, e2, e3]
  exact h
def chH (v : Int → Int) (B : LB) (t0 : Int) : Int → crft → Int := fun k c => spOr v c (spHand v B c (t0 + k))
def gvH : Int → Int := fun _ => 0
theorem chH_may {v : Int → Int} {B : LB} {t0 : Int} : ∀ k c, 0 ≤ chH v B t0 k c → mayC v c (chH v B t0 k c) := fun _ _ h => spOr_may h
theorem c_byHands_l (d : Nat) {v : Int → Int} (hL : LandI v) {B : LB} {t0 : Int} (ht0 : 0 ≤ t0 ∧ t0 ≤ 200) {c0 : crft} : ∀ (m k : Nat) (z : zH), k + m = 60 → zRR z → (∀ k, zR (v k)) → LandR z v → HB 13 z v B → okC v (traj v (chH v B t0) gvH c0 k) → crC z 46 = traj v (chH v B t0) gvH c0 k → z 46 4 = t0 + k → z 45 2 = k → z 47 0 = 30 → z 47 1 = 2 → (z 47 3 = if (k : Int) < 30 then (k : Int) else 30) → ∀ n, m < n →
    xw (r_X3_byHands (d + 5) n 7 [some (xR 19 45), some (xR 26 1), some (xI (zI k)), none] [] (hI z)) (fun _ z' => crC z' 46 = traj v (chH v B t0) gvH c0 (endT v (chH v B t0) gvH c0 m k) ∧ z' 45 2 = endT v (chH v B t0) gvH c0 m k ∧ z' 47 0 = 30 ∧ z' 47 1 = 2 ∧ fr [45, 46, 47, 48] z z') := by
  intro m
  induction m with
  | zero =>
    intro k z hkm hz hv hR hB hok hC ht h45 h0 h1 h3 n hn
    obtain ⟨n, rfl⟩ := Nat.exists_eq_succ_of_ne_zero (show n ≠ 0 by omega)
    have hk : k = 60 := by omega
    subst hk
    rw [l_X3_byHands_7, if_neg (by decide)]
    simp only [zLit]
    exact xw_ret (zR_s (by omega)) hz ⟨hC, h45, h0, h1, fr_rf _ _⟩
  | succ m ih =>
    intro k z hkm hz hv hR hB hok hC ht h45 h0 h1 h3 n hn
    obtain ⟨n, rfl⟩ := Nat.exists_eq_succ_of_ne_zero (show n ≠ 0 by omega)
    have hkr : zR (k : Int) := zR_s (by omega)
    have har := area hL.1 hL.2.1
    have hok' : okC v (crC z 46) := by rw [hC]; exact hok
    have cd := fun d => c_isDown d hz hR (o := 46) (hv _) ⟨hok'.1.1, by have := hok'.1.2; simp only at this; omega⟩
    have ech : chH v B t0 k (traj v (chH v B t0) gvH c0 k) = spOr v (crC z 46) (spHand v B (crC z 46) (z 46 4)) := by rw [hC, ht]; rfl
    rw [l_X3_byHands_7]
    simp only [zLit, Nat.reduceAdd]
    rw [if_pos (by rw [zI_lt hkr (zR_s (by omega))]; omega)]
    simp only [cd, xbd_n, zB_0]
    unfold endT
    by_cases q : z 46 3 ≤ v (24 + z 46 0)
    · have e : spOr v (crC z 46) (spHand v B (crC z 46) (z 46 4)) = -1 := spOr_dn q
      rw [if_neg (fun w => w q)]
      have e2 : chH v B t0 k (traj v (chH v B t0) gvH c0 k) < 0 := by rw [ech, e]; omega
      simp only [if_pos e2]
      exact xw_ret (zR_s (by omega)) hz ⟨hC, h45, h0, h1, fr_rf _ _⟩
    · rw [if_pos q]
      have co := fun d => c_actByHands d hz hv hR hL hB (o := 46) hok' ⟨by omega, by omega⟩
      simp only [co, xbd_n]
      have ob := spOr_b (v := v) (c := crC z 46) (a := spHand v B (crC z 46) (z 46 4))
      rcases ob with ob | ob
      · rw [if_pos ob, if_pos (by rw [zI_lt (zR_s (by omega)) (zR_s (by omega))]; omega)]
        have e2 : chH v B t0 k (traj v (chH v B t0) gvH c0 k) < 0 := by rw [ech, ob]; omega
        simp only [if_pos e2]
        exact xw_ret (zR_s (by omega)) hz ⟨hC, h45, h0, h1, fr_rf _ _⟩
      · have hm := spOr_may ob.1
        have hne : ¬ spOr v (crC z 46) (spHand v B (crC z 46) (z 46 4)) = -1 := by omega
        have hnr : zR (spOr v (crC z 46) (spHand v B (crC z 46) (z 46 4))) := zR_s (by omega)
        rw [if_neg hne, if_neg (by rw [zI_lt hnr (zR_s (by omega))]; omega)]
        have e2 : ¬ chH v B t0 k (traj v (chH v B t0) gvH c0 k) < 0 := by rw [ech]; omega
        simp only [if_neg e2]
        refine xw_k (c_goW _ hz hR hL hok' (by omega) hm (g := 0) (by omega) h45 ⟨by omega, by omega⟩ h0 h1 h3) ?_
        intro r z1 hr hz1 ⟨w1, w2, w3, w4, w5, w6, w7, f⟩
        have w1' : crC z1 46 = traj v (chH v B t0) gvH c0 (k + 1) := by
          rw [w1, ← ech, hC]
          rfl
        have hok2 : okC v (traj v (chH v B t0) gvH c0 (k + 1)) := by
          rw [← w1', w1]
          exact goC_ok hL hok' hm (by omega)
        rw [zI_add]
        refine xw_m (ih (k + 1) z1 (by omega) hz1 hv (LandR_fr hR f rfl rfl rfl rfl) (HB_t hB f) hok2 w1' (by omega) (by rw [w3]; omega) w4 w5 (by rw [w6]; rw [show ((k + 1 : Nat) : Int) = (k : Int) + 1 by omega]) n (by omega)) ?_
        intro r2 z2 _ _ ⟨x1, x2, x3, x4, x7⟩
        exact ⟨x1, x2, x3, x4, fr_tr f x7 rfl⟩
abbrev hT (v : Int → Int) (B : LB) : Nat := endT v (chH v B (v 6)) gvH (crV v) 60 0
abbrev hC (v : Int → Int) (B : LB) : crft := traj v (chH v B (v 6)) gvH (crV v) (hT v B)
theorem c_byHandsW (d : Nat) {z : zH} (h : Inv z) {B : LB} (hB : HB 13 z (z 101) B) : xw (cM (d + 6) 17 [xR 19 45, xR 26 1] (hI z)) (fun _ z' => crC z' 46 = hC (z 101) B ∧ z' 45 2 = hT (z 101) B ∧ fr [45, 46, 47, 48] z z' ∧ z' 47 0 = 30 ∧ z' 47 1 = 2) := by
  obtain ⟨hz, hW, hK, hT, hO, hSh, hF, hCt⟩ := h
  have hL := hW.1.2
  have hR := RLand_R hW.1.1
  have hC : PCraft 6 z (z 101) := hW.2.1
  have hcr := PCraft_cr hC
  have g := hC.2.2.2.2.2.1
  have p4 := hC.2.2.2.2.1
  have g5 := hC.2.2.2.2.2.2
  obtain ⟨⟨o0, o1, o2, o3⟩, -⟩ := hO
  rw [e_X3_byHands, show xF = 999999 + 1 from rfl, l_X3_byHands_0, e_X3_begin]
  have Bg : xw (xbd (cM (d + 4) 15 [xR 18 46, xR 18 (1 + 5)] (hI z)) fun r1 h2 => some (0, xup (xup h2 47 3 0) 45 2 0)) (fun _ z1 => crC z1 46 = crV (z 101) ∧ z1 46 4 = z 101 6 ∧ z1 45 2 = 0 ∧ z1 47 3 = 0 ∧ z1 47 0 = 30 ∧ z1 47 1 = 2 ∧ fr [45, 46, 47, 48] z z1) := by
    refine xw_k (c_ccpW _ hz (o := 46) (Or.inl rfl)) ?_
    intro r z1 hr hz1 ⟨e1, e2, f⟩
    refine xw_eq (r := 0) (z := zup (zup z1 47 3 0) 45 2 0) ?_ (zR_s (by omega)) (zRR_up (zRR_up hz1 _ _ (zR_s (by omega))) _ _ (zR_s (by omega))) ⟨?_, ?_, ?_, ?_, ?_, ?_, ?_⟩
    · simp only [zLit, hI_us]
    · simp only [crC, zup_at, and_self, and_true, true_and, and_false, false_and, if_true, if_false, reduceIte, Int.reduceEq, reduceCtorEq, Nat.reduceEqDiff]
      rw [← hcr]
      exact e1
    · simp only [zup_at, false_and, if_false, Nat.reduceEqDiff]
      rw [e2, p4]
    · rw [zup_at, if_pos ⟨rfl, rfl⟩]
    · rw [zup_ne _ _ _ (by decide), zup_at, if_pos ⟨rfl, rfl⟩]
    · rw [zup_ne _ _ _ (by decide), zup_at, if_neg (by omega), f 47 rfl]; exact o2
    · rw [zup_ne _ _ _ (by decide), zup_at, if_neg (by omega), f 47 rfl]; exact o3
    · exact fr_up (fr_up (fr_mono f rfl) _ _ rfl) _ _ rfl
  refine xw_k Bg ?_
  intro r z1 hr hz1 ⟨w1, w2, w3, w4, w5, w6, f⟩
  simp only [zLit]
  refine xw_m (c_byHands_l d hL (B := B) (t0 := z 101 6) ⟨by omega, by omega⟩ (c0 := crV (z 101)) 60 0 z1 (by omega) hz1 (hz 101) (LandR_fr hR f rfl rfl rfl rfl) (HB_t hB f) g w1 (by rw [w2]; exact (Int.add_zero _).symm) w3 w5 w6 (by rw [w4]; rfl) 999999 (by omega)) ?_
  intro r2 z2 _ _ ⟨x1, x2, x3, x4, x7⟩
  exact ⟨x1, x2, fr_tr f x7 rfl, x3, x4⟩
theorem h_ok {z : zH} (h : Inv z) (B : LB) : okC (z 101) (hC (z 101) B) ∧ (0 ≤ (hT (z 101) B : Int) ∧ (hT (z 101) B : Int) ≤ 60) := by
  obtain ⟨hz, hW, -⟩ := h
  have hL := hW.1.2
  have hC : PCraft 6 z (z 101) := hW.2.1
  have g := hC.2.2.2.2.2.1
  have b := endT_b (v := z 101) (ch := chH (z 101) B (z 101 6)) (gv := gvH) (c0 := crV (z 101)) 60 0
  refine ⟨traj_ok hL g (fun k => Int.le_refl 0) chH_may 60 0 g, ?_⟩
  show 0 ≤ ((endT (z 101) (chH (z 101) B (z 101 6)) gvH (crV (z 101)) 60 0 : Nat) : Int) ∧ ((endT (z 101) (chH (z 101) B (z 101 6)) gvH (crV (z 101)) 60 0 : Nat) : Int) ≤ 60
  omega
theorem m_ruled_l (d : Nat) {v : Int → Int} (hL : LandI v) {z0 : zH} (hE : PEnds 7 z0 v) {B : LB} (hB : HB 13 z0 v B) (ht0 : 0 ≤ v 6 ∧ v 6 ≤ 200) {c0 : crft} {w : Int} (hw : 0 ≤ w ∧ w ≤ 4) : ∀ (m k : Nat) (z : zH), k + m = 60 → zRR z → z 101 = v → okC v (traj v (chH v B (v 6)) gvH c0 k) → okC v (traj v (chH v B (v 6)) gvH c0 (endT v (chH v B (v 6)) gvH c0 m k)) → crM z = traj v (chH v B (v 6)) gvH c0 k → z 100 16 = k → ∀ n, m < n →
    xw (r_X12_ruled (d + 6) n 30 [some (xR 28 100), some (xI (zI w)), some (xI (zI (chH v B (v 6) k (traj v (chH v B (v 6)) gvH c0 k))))] [] (hI z)) (fun q z' => q = spTold v (traj v (chH v B (v 6)) gvH c0 (endT v (chH v B (v 6)) gvH c0 m k)) (endT v (chH v B (v 6)) gvH c0 m k) w ∧ fr [100, 108, 109, 114] z z' ∧ ff [5, 6, 7, 8, 16, 28] z z') := by
  intro m
  induction m with
  | zero =>
    intro k z hkm hz hv hok hokE hC hk n hn
    obtain ⟨n, rfl⟩ := Nat.exists_eq_succ_of_ne_zero (show n ≠ 0 by omega)
    have hk60 : k = 60 := by omega
    subst hk60
    have ob : chH v B (v 6) (60 : Nat) (traj v (chH v B (v 6)) gvH c0 60) = -1 ∨ (0 ≤ chH v B (v 6) (60 : Nat) (traj v (chH v B (v 6)) gvH c0 60) ∧ chH v B (v 6) (60 : Nat) (traj v (chH v B (v 6)) gvH c0 60) ≤ 8) := spOr_b
    have ct := fun d => m_told d hz hv hL hE hC hok hk hw
    have tb := spTold_b (t := ((60 : Nat) : Int)) (w := w) hL hE hok (by omega)
    rw [l_X12_ruled_30]
    simp only [zLit, hI_fs, hk, ct, xbd_n]
    have fin : xw (some (zI (spTold v (traj v (chH v B (v 6)) gvH c0 60) ((60 : Nat) : Int) w), hI z)) (fun q z' => q = spTold v (traj v (chH v B (v 6)) gvH c0 (endT v (chH v B (v 6)) gvH c0 0 60)) (endT v (chH v B (v 6)) gvH c0 0 60) w ∧ fr [100, 108, 109, 114] z z' ∧ ff [5, 6, 7, 8, 16, 28] z z') := xw_ret (zR_s (by omega)) hz ⟨rfl, fr_rf _ _, ff_rf _ _⟩
    generalize chH v B (v 6) (60 : Nat) (traj v (chH v B (v 6)) gvH c0 60) = a at *
    by_cases q : a < 0
    · rw [if_pos (by rw [zI_lt (zR_s (by omega)) (zR_s (by omega))]; exact q)]
      exact fin
    · rw [if_neg (by rw [zI_lt (zR_s (by omega)) (zR_s (by omega))]; exact q), if_neg (by decide)]
      exact fin
  | succ m ih =>
    intro k z hkm hz hv hok hokE hC hk n hn
    obtain ⟨n, rfl⟩ := Nat.exists_eq_succ_of_ne_zero (show n ≠ 0 by omega)
    have hkr : zR (k : Int) := zR_s (by omega)
    have ob : chH v B (v 6) k (traj v (chH v B (v 6)) gvH c0 k) = -1 ∨ (0 ≤ chH v B (v 6) k (traj v (chH v B (v 6)) gvH c0 k) ∧ chH v B (v 6) k (traj v (chH v B (v 6)) gvH c0 k) ≤ 8) := spOr_b
    have ct := fun d => m_told d hz hv hL hE hC hok hk hw
    have tb := spTold_b (t := (k : Int)) (w := w) hL hE hok (by omega)
    rw [l_X12_ruled_30]
    simp only [zLit, hI_fs, hk]
    unfold endT at hokE ⊢
    rcases ob with ob | ob
    · have e2 : chH v B (v 6) k (traj v (chH v B (v 6)) gvH c0 k) < 0 := by omega
      simp only [if_pos e2]
      rw [if_pos (by rw [zI_lt (zR_s (by omega)) (zR_s (by omega))]; exact e2)]
      simp only [ct, xbd_n]
      exact xw_ret (zR_s (by omega)) hz ⟨rfl, fr_rf _ _, ff_rf _ _⟩
    · have e2 : ¬ chH v B (v 6) k (traj v (chH v B (v 6)) gvH c0 k) < 0 := by omega
      have hm := chH_may k (traj v (chH v B (v 6)) gvH c0 k) ob.1
      simp only [if_neg e2] at hokE ⊢
      rw [if_neg (by rw [zI_lt (zR_s (by omega)) (zR_s (by omega))]; exact e2), if_pos (by rw [zI_lt hkr (zR_s (by omega))]; omega)]
      refine xw_k (m_goOnW _ hz (by rw [hv]; exact hL) (by rw [hv, hC]; exact hok) (by rw [hv, hC]; exact hm) (g := 0) (by omega) hk ⟨by omega, by omega⟩) ?_
      intro r1 z1 hr1 hz1 ⟨w1, w2, w3, w4, f, g1⟩
      rw [hv, hC] at w1
      have w1' : crM z1 = traj v (chH v B (v 6)) gvH c0 (k + 1) := w1
      have hok2 : okC v (traj v (chH v B (v 6)) gvH c0 (k + 1)) := goC_ok hL hok hm (Int.le_refl 0)
      obtain ⟨H, dH⟩ : ∃ H, H = zup z1 100 28 (z1 100 16) := ⟨_, rfl⟩
      have y : zRR H := by rw [dH]; exact zRR_up hz1 _ _ (hz1 _ _)
      have fH : fr [100, 108, 109, 114] z H := by rw [dH]; exact fr_up (fr_mono f rfl) _ _ rfl
      have gH : ff [5, 6, 7, 8, 16, 28] z H := by rw [dH]; exact ff_up (ff_mono g1 rfl) _ rfl
      have vH : H 101 = v := by rw [fH 101 rfl]; exact hv
      have t0 : H 100 28 = k + 1 := by rw [dH, zup_at, if_pos ⟨rfl, rfl⟩]; exact w2
      have k0 : H 100 16 = k + 1 := by rw [dH, zup_at, if_neg (by omega)]; exact w2
      have cH : crM H = traj v (chH v B (v 6)) gvH c0 (k + 1) := by
        rw [dH]
        simp only [crM, zup_at, and_self, and_true, true_and, and_false, false_and, if_true, if_false, reduceIte, Int.reduceEq]
        exact w1'
      simp only [hI_fs, hI_us]
      rw [← dH]
      refine xw_k (m_handed (d + 1) (t := v 6 + (k + 1)) ⟨by omega, by omega⟩ hL hB hok2 y vH cH (by rw [vH, t0])) ?_
      intro r2 z2 hr2 hz2 ⟨x2, f2⟩
      have x3 : r2 = chH v B (v 6) ((k + 1 : Nat) : Int) (traj v (chH v B (v 6)) gvH c0 (k + 1)) := by
        rw [x2, show ((k + 1 : Nat) : Int) = (k : Int) + 1 by omega]
        rfl
      rw [x3]
      refine xw_m (ih (k + 1) z2 (by omega) hz2 (by rw [f2 101 rfl]; exact vH) hok2 hokE (by rw [← cH]; simp only [crM, f2 100 rfl]) (by rw [f2 100 rfl, k0]; omega) n (by omega)) ?_
      intro r3 z3 _ _ ⟨y1, y2, y3⟩
      exact ⟨y1, fr_tr (fr_tr fH (fr_mono (T := [100, 108, 109, 114]) f2 rfl) rfl) y2 rfl, fun j hj => by rw [y3 j hj, f2 100 rfl, gH j hj]⟩
theorem c_ruTold (d : Nat) {z : zH} (h : Inv z) {B : LB} (hB : HB 13 z (z 101) B) : xw (cM (d + 6) 17 [xR 19 45, xR 26 1] (hI z)) (fun _ z1 => fr [45, 46, 47, 48] z z1 ∧ Inv z1 ∧ ∀ d w, 0 ≤ w → w ≤ 4 → cM (d + 6) 20 [xR 19 45, xR 26 1, xI (zI w)] (hI z1) = some (zI (spTold (z 101) (hC (z 101) B) (hT (z 101) B) w), hI z1)) := by
  have ok := h_ok h B
  refine xw_m (c_byHandsW d h hB) ?_
  intro r z1 hr hz1 ⟨e1, e2, f, n0, n1⟩
  obtain ⟨hz, hW, hK, hT, hO, hSh, hF, hCt⟩ := h
  have hL := hW.1.2
  have hR := RLand_R hW.1.1
  have hE : PEnds 7 z (z 101) := hW.2.2.1
  refine ⟨f, ?_, fun d w w0 w1 => c_told d hz1 (hz 101) (LandR_fr hR f rfl rfl rfl rfl) hL (PEnds_t hE (f 7 rfl) (f 8 rfl) (fun _ _ => rfl)) e1 ok.1 e2 ⟨w0, w1⟩⟩
  have hO' := hO
  obtain ⟨⟨o0, o1, o2, o3⟩, -⟩ := hO'
  exact Inv_scr ⟨hz, hW, hK, hT, hO, hSh, hF, hCt⟩ hz1 (fr_mono f rfl) (by rw [f 100 rfl]) (by rw [f 100 rfl]) (by rw [f 100 rfl]) (by rw [f 100 rfl]) (by rw [f 55 rfl]) (by rw [f 66 rfl]) (by rw [n0, o2]) (by rw [n1, o3])
theorem k_ruled {z : zH} (h : Inv z) {w : Int} (hw : zR w) : two 124 227 [xI (zI w)] z := by
  have hI0 := h
  obtain ⟨hz, hW, hK, hT', hO, hSh, hF, hCt⟩ := h
  have h0r : zR 0 := zR_s (by omega)
  have h4r : zR 4 := zR_s (by omega)
  have hH : PHands 13 z (z 101) := hW.2.2.2.2.2.1
  obtain ⟨B, hB⟩ := PHands_B hH
  by_cases q : 0 ≤ w ∧ w ≤ 4
  · have ok := h_ok hI0 B
    have tb := spTold_b (t := (hT (z 101) B : Int)) (w := w) hW.1.2 hW.2.2.1 ok.1 ok.2
    have htr : zR (spTold (z 101) (hC (z 101) B) (hT (z 101) B) w) := zR_s (by omega)
    refine xw_m (P := fun r z1 => r = spTold (z 101) (hC (z 101) B) (hT (z 101) B) w ∧ fr [45, 46, 47, 48] z z1 ∧ Inv z1) ?_ ?_
    · rw [e_X11_ruled]
      simp only [zLit, c_within _ hw h0r h4r, xbd_n, zB_0]
      rw [if_neg (fun x => x q)]
      refine xw_k (c_ruTold 53 hI0 hB) ?_
      intro r z1 hr hz1 ⟨f, inv, ct⟩
      simp only [ct 53 w q.1 q.2, xbd_n]
      exact xw_ret htr hz1 ⟨rfl, f, inv⟩
    · intro r z1 hr hz1 ⟨e, f, inv⟩
      have e1 : z1 101 = z 101 := f 101 rfl
      have hL := hW.1.2
      have g : okC (z 101) (crV (z 101)) := hW.2.1.2.2.2.2.2.1
      have g5 := hW.2.1.2.2.2.2.2.2
      have hE : PEnds 7 z (z 101) := hW.2.2.1
      rw [e_X12_ruled, show xF = 999999 + 1 from rfl, l_X12_ruled_0]
      simp only [zLit, m_within _ hw h0r h4r, xbd_n, zB_0]
      rw [if_neg (fun x => x q)]
      refine xw_k (m_beginW _ hz1) ?_
      intro r2 z2 hr2 hz2 ⟨c1, f1, g1⟩
      obtain ⟨H, dH⟩ : ∃ H, H = zup (zup z2 100 16 0) 100 28 0 := ⟨_, rfl⟩
      have y : zRR H := by rw [dH]; exact zRR_up (zRR_up hz2 _ _ h0r) _ _ h0r
      have fH : fr [100, 108, 109, 114] z1 H := by rw [dH]; exact fr_up (fr_up (fr_mono f1 rfl) _ _ rfl) _ _ rfl
      have gH : ff [5, 6, 7, 8, 16, 28] z1 H := by rw [dH]; exact ff_up (ff_up (ff_mono g1 rfl) _ rfl) _ rfl
      have vH : H 101 = z 101 := by rw [fH 101 rfl, e1]
      have t0 : H 100 28 = 0 := by rw [dH, zup_at, if_pos ⟨rfl, rfl⟩]
      have k0 : H 100 16 = 0 := by rw [dH, zup_at, if_neg (by omega), zup_at, if_pos ⟨rfl, rfl⟩]
      have cH : crM H = crV (z 101) := by
        rw [dH]
        simp only [crM, zup_at, and_self, and_true, true_and, and_false, false_and, if_true, if_false, reduceIte, Int.reduceEq]
        rw [← e1]
        exact c1
      simp only [hI_us]
      rw [← dH]
      refine xw_k (m_handed 54 (t := z 101 6) ⟨by omega, by omega⟩ hL hB g y vH cH (by rw [vH, t0, Int.add_zero])) ?_
      intro r3 z3 hr3 hz3 ⟨x2, f3⟩
      have x3 : r3 = chH (z 101) B (z 101 6) ((0 : Nat) : Int) (traj (z 101) (chH (z 101) B (z 101 6)) gvH (crV (z 101)) 0) := by
        rw [x2]
        show _ = spOr (z 101) (crV (z 101)) (spHand (z 101) B (crV (z 101)) (z 101 6 + 0))
        rw [Int.add_zero]
      rw [x3]
      refine xw_m (m_ruled_l 53 hL hE hB g5 (c0 := crV (z 101)) q 60 0 z3 (by omega) hz3 (by rw [f3 101 rfl]; exact vH) g ok.1 (by rw [show traj (z 101) (chH (z 101) B (z 101 6)) gvH (crV (z 101)) 0 = crV (z 101) from rfl, ← cH]; simp only [crM, f3 100 rfl]) (by rw [f3 100 rfl, k0]; rfl) 999999 (by omega)) ?_
      intro r4 z4 hr4 hz4 ⟨y1, y2, y3⟩
      exact ⟨by rw [y1, e], Inv_scrM inv (F := [5, 6, 7, 8, 16, 28]) hz4 (fr_mono (fr_tr (fr_tr fH (fr_mono (T := [100, 108, 109, 114]) f3 rfl) rfl) y2 rfl) rfl) (fun j hj => by rw [y3 j hj, f3 100 rfl, gH j hj]) rfl rfl rfl rfl⟩
  · refine two_ro hI0 (-1) (by simp only [zR]; omega) ?_ ?_
    · rw [e_X11_ruled]
      simp only [zLit, c_within _ hw h0r h4r, xbd_n, zB_0]
      rw [if_pos q, zI_neg]
    · rw [e_X12_ruled, show xF = 999999 + 1 from rfl, l_X12_ruled_0]
      simp only [zLit, m_within _ hw h0r h4r, xbd_n, zB_0]
      rw [if_pos q, zI_neg]
