/-! PURE, part 62: LATE -/
def strt (v : Int → Int) (c : crft) : Nat → crft
  | 0 => c
  | n + 1 => spAct v (strt v c n) 4
def okT (v : Int → Int) (c : crft) (e : Int) (t : Nat) : Prop := (∀ j, j < t → mayC v (strt v c j) 4) ∧ spCan v (strt v c t) e
theorem strt_ok {v : Int → Int} (hL : LandI v) {c : crft} (h0 : okC v c) : ∀ t : Nat, (∀ j, j < t → mayC v (strt v c j) 4) → okC v (strt v c t) := by
  intro t
  induction t with
  | zero => intro _; exact h0
  | succ t ih => intro h; exact okC_act hL (ih (fun j hj => h j (by omega))) (h t (by omega))
theorem okT_dn {v : Int → Int} {c : crft} {e : Int} {t : Nat} (h : okT v c e (t + 1)) : okT v c e t := by
  obtain ⟨h1, c', h2, h3⟩ := h
  exact ⟨fun j hj => h1 j (by omega), c', Rch_tr (Rch_step Rch_base (h1 t (by omega))) h2, h3⟩
theorem okT_le {v : Int → Int} {c : crft} {e : Int} : ∀ (k t : Nat), okT v c e (t + k) → okT v c e t := by
  intro k
  induction k with
  | zero => intro t h; exact h
  | succ k ih => intro t h; exact ih t (okT_dn h)
/-- what LATE may answer -/
def LtR (v : Int → Int) (c : crft) (e r : Int) : Prop := (r = -3 ∧ ¬ okT v c e 0) ∨ ∃ t : Nat, r = t ∧ t ≤ 30 ∧ okT v c e t ∧ (t = 30 ∨ ¬ okT v c e (t + 1))
theorem LtR_u {v : Int → Int} {c : crft} {e r r' : Int} (h : LtR v c e r) (h' : LtR v c e r') : r' = r := by
  have w : ∀ t t' : Nat, t ≤ 30 → okT v c e t → t' ≤ 30 → (t' = 30 ∨ ¬ okT v c e (t' + 1)) → t ≤ t' := by
    intro t t' h1 h2 h3 h4
    rcases h4 with q | q
    · omega
    · by_cases x : t ≤ t'
      · exact x
      · exfalso
        apply q
        have : t = (t' + 1) + (t - (t' + 1)) := by omega
        rw [this] at h2
        exact okT_le _ _ h2
  rcases h with ⟨a1, a2⟩ | ⟨t, a1, a2, a3, a4⟩
  · rcases h' with ⟨b1, b2⟩ | ⟨t', b1, b2, b3, b4⟩
    · omega
    · exact absurd (okT_le t' 0 (by rw [Nat.zero_add]; exact b3)) a2
  · rcases h' with ⟨b1, b2⟩ | ⟨t', b1, b2, b3, b4⟩
    · exact absurd (okT_le t 0 (by rw [Nat.zero_add]; exact a3)) b2
    · have u1 := w t t' a2 a3 b2 b4
      have u2 := w t' t b2 b3 a2 a4
      omega
theorem c_late_l (d : Nat) {v : Int → Int} (hv : ∀ k, zR (v k)) (hL : LandI v) {c0 : crft} (ok0 : okC v c0) {z0 : zH} (hR0 : LandR z0 v) (hE0 : PEnds 7 z0 v) {e : Int} (he : 0 ≤ e ∧ e < v 7) : ∀ (m k : Nat), k + m = 31 → ∀ (z : zH) (l : Int), zRR z → fr [49, 51, 52, 53, 54] z0 z → crC z 49 = strt v c0 k → (0 ≤ z 49 4 ∧ z 49 4 ≤ 200 + k) → (∀ j, j < k → mayC v (strt v c0 j) 4) → ((k = 0 ∧ l = -3) ∨ (l + 1 = k ∧ 1 ≤ k ∧ okT v c0 e (k - 1))) → ∀ n, m < n → xw (r_X11_late (d + 5) n 35 [some (xR 27 0), some (xI (zI e)), some (xI (zI l)), some (xI (zI (k : Int)))] [] (hI z)) (fun r z' => LtR v c0 e r ∧ fr [49, 51, 52, 53, 54] z0 z') := by
  have h0r : zR 0 := zR_s (by omega)
  have h4r : zR 4 := zR_s (by omega)
  have er : zR e := zR_s (by have := hE0.1.2.2.2.1; omega)
  intro m
  induction m with
  | zero =>
    intro k hk z l hz f hc ht hm hl n hn
    obtain ⟨n, rfl⟩ := Nat.exists_eq_succ_of_ne_zero (show n ≠ 0 by omega)
    rw [l_X11_late_35]
    simp only [zLit]
    rw [if_pos (by rw [zI_lt (zR_s (by omega)) (zR_s (by omega))]; omega)]
    refine xw_ret (zR_s (by omega)) hz ⟨?_, f⟩
    rcases hl with q | ⟨q1, q3, q2⟩
    · omega
    · right
      refine ⟨30, by omega, by omega, ?_, Or.inl rfl⟩
      rw [show k - 1 = 30 by omega] at q2
      exact q2
  | succ m ih =>
    intro k hk z l hz f hc ht hm hl n hn
    obtain ⟨n, rfl⟩ := Nat.exists_eq_succ_of_ne_zero (show n ≠ 0 by omega)
    have lr : zR l := zR_s (by omega)
    have kr : zR (k : Int) := zR_s (by omega)
    have okk := strt_ok hL ok0 k hm
    have hR : LandR z v := LandR_fr hR0 f rfl rfl rfl rfl
    have hE : PEnds 7 z v := PEnds_t hE0 (f 7 rfl) (f 8 rfl) (fun _ _ => rfl)
    rw [l_X11_late_35]
    simp only [zLit, zI_add]
    rw [if_neg (by rw [zI_lt (zR_s (by omega)) kr]; omega)]
    refine xw_k (c_search d hv hL hz hR hE (o := 49) ⟨by decide, by decide⟩ (by rw [hc]; exact okk) er) ?_
    intro r1 z1 hr1 hz1 hP
    have f1 : fr [51, 52, 53, 54] z z1 := hP.2.2.2
    rw [hc] at hP
    have fz1 : fr [49, 51, 52, 53, 54] z0 z1 := fr_tr f (fr_mono f1 (T := [49, 51, 52, 53, 54]) rfl) rfl
    have hR1 : LandR z1 v := LandR_fr hR0 fz1 rfl rfl rfl rfl
    have hE1 : PEnds 7 z1 v := PEnds_t hE0 (fz1 7 rfl) (fz1 8 rfl) (fun _ _ => rfl)
    have e49 : z1 49 = z 49 := f1 49 rfl
    have hc1 : crC z1 49 = strt v c0 k := by rw [← hc]; simp only [crC, e49]
    refine xw_k (c_gg d hv hL okk hz1 hE1 he (Or.inl rfl) hP) ?_
    intro g z2 hr2 hz2 ⟨e2, hg⟩
    subst e2
    have cg := spCan_g hL okk hg
    by_cases w : g < 0
    · rw [if_pos (by rw [zI_lt hr2 h0r]; exact w)]
      refine xw_ret lr hz1 ⟨?_, fz1⟩
      have no : ¬ okT v c0 e k := fun x => by
        have := cg.mp x.2
        omega
      rcases hl with ⟨q, q2⟩ | ⟨q1, q3, q2⟩
      · left
        rw [q] at no
        exact ⟨q2, no⟩
      · right
        refine ⟨k - 1, by omega, by omega, q2, Or.inr ?_⟩
        by_cases x : k = 0
        · omega
        · rw [show k - 1 + 1 = k by omega]
          exact no
    · rw [if_neg (by rw [zI_lt hr2 h0r]; exact w)]
      have yes : okT v c0 e k := ⟨hm, cg.mpr (by omega)⟩
      have cm := fun d => c_mayC d hz1 hR1 hL (o := 49) (by rw [hc1]; exact okk) (a := 4) h4r
      rw [hc1] at cm
      simp only [cm, xbd_n, zB_0]
      by_cases q : mayC v (strt v c0 k) 4
      · rw [if_neg (fun x => x q)]
        refine xw_k (c_moveW (d + 2) hz1 hR1 hL (o := 49) (Or.inr (by omega)) (by rw [hc1]; exact okk) (by rw [e49]; omega) (a := 4) (by rw [hc1]; exact q)) ?_
        intro r3 z3 hr3 hz3 ⟨e3, t3, f3, _⟩
        rw [hc1] at e3
        have e5 : ((k : Int) + 1) = ((k + 1 : Nat) : Int) := by omega
        rw [e5]
        exact ih (k + 1) (by omega) z3 (k : Int) hz3 (fr_tr fz1 (fr_mono f3 (T := [49, 51, 52, 53, 54]) rfl) rfl) e3 (by rw [t3, e49]; omega) (fun j hj => by
          by_cases x : j = k
          · rw [x]; exact q
          · exact hm j (by omega)) (Or.inr ⟨by omega, by omega, by rw [show k + 1 - 1 = k by omega]; exact yes⟩) n (by omega)
      · rw [if_pos q]
        refine xw_ret kr hz1 ⟨Or.inr ⟨k, rfl, by omega, yes, Or.inr (fun x => q (x.1 k (by omega)))⟩, fz1⟩
theorem m_behind_l (d : Nat) {v : Int → Int} (hL : LandI v) {c0 : crft} (ok0 : okC v c0) {zE : zH} (hE : PEnds 7 zE v) {e : Int} (he : 0 ≤ e ∧ e < v 7) {z0 : zH} (T : Nat) (hT : T ≤ 100) : ∀ (m k : Nat), k + m = T → ∀ (z : zH), zRR z → z 101 = v → FZ z0 z → crM z = strt v c0 k → (∀ j, j < k → mayC v (strt v c0 j) 4) → ∀ n, m < n → xw (r_X12_canBehind (d + 4) n 6 [some (xR 28 100), some (xI (zI e)), some (xI (zI (T : Int))), some (xI (zI (k : Int)))] [] (hI z)) (fun r z' => (r = 0 ∧ ¬ okT v c0 e T ∨ r = 1 ∧ okT v c0 e T) ∧ FZ z0 z') := by
  have h0r : zR 0 := zR_s (by omega)
  have h1r : zR 1 := zR_s (by omega)
  intro m
  induction m with
  | zero =>
    intro k hk z hz hv f hc hm n hn
    obtain ⟨n, rfl⟩ := Nat.exists_eq_succ_of_ne_zero (show n ≠ 0 by omega)
    have e1 : k = T := by omega
    subst e1
    have okk := strt_ok hL ok0 k hm
    rw [l_X12_canBehind_6]
    simp only [zLit]
    rw [if_neg (by rw [zI_lt (zR_s (by omega)) (zR_s (by omega))]; omega)]
    refine xw_k (m_reach d hz (by rw [hv]; exact hL) (by rw [hv, hc]; exact okk)) ?_
    intro r3 z3 hr3 hz3 hP
    have f3 := hP.2.2.2
    rw [hv, hc] at hP
    have e3 : z3 101 = v := (f3.1 101 rfl).trans hv
    refine xw_k (m_gg _ hL okk hz3 hE e3 he hP) ?_
    intro g z4 hr4 hz4 ⟨e4, hg⟩
    subst e4
    have cg := spCan_g hL okk hg
    by_cases w : g < 0
    · rw [if_pos (by rw [zI_lt hr4 h0r]; exact w)]
      exact xw_ret h0r hz3 ⟨Or.inl ⟨rfl, fun x => by have := cg.mp x.2; omega⟩, FZ_tr f f3⟩
    · rw [if_neg (by rw [zI_lt hr4 h0r]; exact w)]
      exact xw_ret h1r hz3 ⟨Or.inr ⟨rfl, hm, cg.mpr (by omega)⟩, FZ_tr f f3⟩
  | succ m ih =>
    intro k hk z hz hv f hc hm n hn
    obtain ⟨n, rfl⟩ := Nat.exists_eq_succ_of_ne_zero (show n ≠ 0 by omega)
    have okk := strt_ok hL ok0 k hm
    have okz : okC (z 101) (crM z) := by rw [hv, hc]; exact okk
    have cm := fun d => m_mayC d hz (by rw [hv]; exact hL) okz (a := 4) (by omega)
    rw [hv, hc] at cm
    rw [l_X12_canBehind_6]
    simp only [zLit]
    rw [if_pos (by rw [zI_lt (zR_s (by omega)) (zR_s (by omega))]; omega)]
    simp only [cm, xbd_n, zB_0, zI_add]
    by_cases q : mayC v (strt v c0 k) 4
    · rw [if_neg (fun x => x q)]
      refine xw_k (m_actW (d + 1) hz (by rw [hv]; exact hL) okz (a := 4) (by rw [hv, hc]; exact q)) ?_
      intro r1 z1 hr1 hz1 ⟨c1, f1, g1⟩
      rw [hv, hc] at c1
      have e5 : ((k : Int) + 1) = ((k + 1 : Nat) : Int) := by omega
      rw [e5]
      exact ih (k + 1) (by omega) z1 hz1 ((f1 101 rfl).trans hv) (FZ_tr f ⟨fr_mono f1 rfl, ff_mono g1 rfl⟩) c1 (fun j hj => by
        by_cases x : j = k
        · rw [x]; exact q
        · exact hm j (by omega)) n (by omega)
    · rw [if_pos q]
      exact xw_ret h0r hz ⟨Or.inl ⟨rfl, fun x => q (x.1 k (by omega))⟩, f⟩
theorem FZ_Inv {z z' : zH} (h : Inv z) (y : zRR z') (f : FZ z z') : Inv z' := Inv_scrM h y (fr_mono f.1 rfl) f.2 rfl rfl rfl rfl
theorem m_behind (d : Nat) {z : zH} (h : Inv z) {e : Int} (he : 0 ≤ e ∧ e < z 101 7) {T : Nat} (hT : T ≤ 100) : xw (cM (d + 5) 184 [xR 28 100, xI (zI e), xI (zI (T : Int))] (hI z)) (fun r z' => (r = 0 ∧ ¬ okT (z 101) (crV (z 101)) e T ∨ r = 1 ∧ okT (z 101) (crV (z 101)) e T) ∧ Inv z' ∧ z' 101 = z 101) := by
  have hI0 := h
  obtain ⟨hz, hW, hK, hT', hO, hSh, hF, hCt⟩ := h
  have hL := hW.1.2
  have hE : PEnds 7 z (z 101) := hW.2.2.1
  have ok0 : okC (z 101) (crV (z 101)) := hW.2.1.2.2.2.2.2.1
  rw [e_X12_canBehind, show xF = 999999 + 1 from rfl, l_X12_canBehind_0]
  refine xw_k (m_beginW _ hz) ?_
  intro r2 z2 hr2 hz2 ⟨c2, f2, g2⟩
  have e2 : z2 101 = z 101 := f2 101 rfl
  have fz : FZ z z2 := ⟨fr_mono f2 rfl, ff_mono g2 rfl⟩
  simp only [zLit]
  refine xw_m (m_behind_l d hL ok0 hE he (z0 := z) T hT T 0 (by omega) z2 hz2 e2 fz c2 (fun j hj => absurd hj (by omega)) 999999 (by omega)) ?_
  intro r z3 _ hz3 ⟨w, f3⟩
  exact ⟨w, FZ_Inv hI0 hz3 f3, f3.1 101 rfl⟩
theorem m_late_l (d : Nat) {v : Int → Int} {e : Int} (he : 0 ≤ e ∧ e < v 7) (her : zR e) : ∀ (m lo hi : Nat), hi - lo ≤ m → lo < hi → hi ≤ 31 → okT v (crV v) e lo → (hi = 31 ∨ ¬ okT v (crV v) e hi) → ∀ (z : zH), Inv z → z 101 = v → ∀ n, m < n → xw (r_X12_late (d + 5) n 29 [some (xR 28 100), some (xI (zI e)), some (xI (zI (lo : Int))), some (xI (zI (hi : Int))), none] [] (hI z)) (fun r z' => LtR v (crV v) e r ∧ Inv z') := by
  have h0r : zR 0 := zR_s (by omega)
  have h1r : zR 1 := zR_s (by omega)
  intro m
  induction m with
  | zero => intro lo hi h1 h2; omega
  | succ m ih =>
    intro lo hi h1 h2 h3 hlo hhi z h hv n hn
    obtain ⟨n, rfl⟩ := Nat.exists_eq_succ_of_ne_zero (show n ≠ 0 by omega)
    subst hv
    rw [l_X12_late_29]
    simp only [zLit, zI_sub, zI_add]
    by_cases q : hi - lo = 1
    · rw [if_neg (by rw [zI_lt h1r (zR_s (by omega))]; omega)]
      refine xw_ret (zR_s (by omega)) h.1 ⟨Or.inr ⟨lo, rfl, by omega, hlo, ?_⟩, h⟩
      rcases hhi with w | w
      · left; omega
      · right
        rw [show lo + 1 = hi by omega]
        exact w
    · rw [if_pos (by rw [zI_lt h1r (zR_s (by omega))]; omega), if_neg (by decide)]
      have dv : zI ((lo : Int) + (hi : Int)) / zI 2 = zI (((lo + hi) / 2 : Nat) : Int) := by
        rw [zI_div (zR_s (by omega)) (by omega) (by omega) (zR_s (by omega))]
        congr 1
      simp only [dv]
      refine xw_k (m_behind d h he (T := (lo + hi) / 2) (by omega)) ?_
      intro r z1 hr hz1 ⟨w, inv, e1⟩
      rcases w with ⟨w1, w2⟩ | ⟨w1, w2⟩
      · rw [if_pos (by rw [w1])]
        exact ih lo ((lo + hi) / 2) (by omega) (by omega) (by omega) hlo (Or.inr w2) z1 inv e1 n (by omega)
      · rw [if_neg (by rw [w1]; decide)]
        exact ih ((lo + hi) / 2) hi (by omega) (by omega) (by omega) w2 hhi z1 inv e1 n (by omega)
theorem k_late {z : zH} (h : Inv z) {a : Int} (ha : zR a) : two 109 185 [xI (zI a)] z := by
  have hI0 := h
  obtain ⟨hz, hW, hK, hT, hO, hSh, hF, hCt⟩ := h
  have hL := hW.1.2
  have hR := RLand_R hW.1.1
  have hC : PCraft 6 z (z 101) := hW.2.1
  have hE : PEnds 7 z (z 101) := hW.2.2.1
  have hcr := PCraft_cr hC
  obtain ⟨p0, p1, p2, p3, p4, ok0, p5⟩ := hC
  have r7 : z 7 3 = z 101 7 := hE.1.2.2.1
  have b7 : 0 ≤ z 101 7 ∧ z 101 7 ≤ 8 := hE.1.2.2.2.1
  have hv : ∀ k, zR (z 101 k) := hz 101
  by_cases q : 0 ≤ a ∧ a < z 101 7
  · refine xw_m (P := fun r z1 => LtR (z 101) (crV (z 101)) a r ∧ Inv z1 ∧ z1 101 = z 101) ?_ ?_
    · have ch := fun d => c_rHas d hz (o := 7) ha
      rw [e_X11_late, show xF = 999999 + 1 from rfl, l_X11_late_0]
      simp only [zLit, zI_neg, ch, xbd_n, zB_0, r7]
      rw [if_neg (fun x => x q)]
      refine xw_k (c_ccpW _ hz (o := 49) (Or.inr rfl)) ?_
      intro r1 z1 hr1 hz1 ⟨e1, e2, f⟩
      rw [hcr] at e1
      refine xw_m (c_late_l 54 (v := z 101) hv hL ok0 (z0 := z) hR hE q 31 0 (by omega) z1 (-3) hz1 (fr_mono f rfl) e1 (by rw [e2, p4]; omega) (fun j hj => absurd hj (by omega)) (Or.inl ⟨rfl, rfl⟩) 999999 (by omega)) ?_
      intro r z2 _ hz2 ⟨w, f2⟩
      exact ⟨w, Inv_scrC hI0 hz2 (fr_mono f2 rfl), f2 101 rfl⟩
    · intro r z1 hr hz1 ⟨hl, inv1, e1⟩
      have mi := fun d => m_is d hz1 (a := a) (b := 7) ha (by omega) (by rw [e1]; omega)
      rw [e_X12_late, show xF = 999999 + 1 from rfl, l_X12_late_0]
      simp only [zLit, zI_neg, mi, xbd_n, zB_0, e1]
      rw [if_neg (fun x => x q)]
      refine xw_k (m_behind 54 inv1 (e := a) (by rw [e1]; exact q) (T := 0) (by omega)) ?_
      intro r2 z2 hr2 hz2 ⟨w, inv2, e2⟩
      rw [e1] at w e2
      rcases w with ⟨w1, w2⟩ | ⟨w1, w2⟩
      · rw [if_pos (by rw [w1])]
        exact xw_ret (zR_s (by omega)) hz2 ⟨LtR_u hl (Or.inl ⟨rfl, w2⟩), inv2⟩
      · rw [if_neg (by rw [w1]; decide)]
        refine xw_m (m_late_l 54 (v := z 101) q ha 31 0 31 (by omega) (by omega) (by omega) w2 (Or.inl rfl) z2 inv2 e2 999999 (by omega)) ?_
        intro r3 z3 _ _ ⟨w3, inv3⟩
        exact ⟨LtR_u hl w3, inv3⟩
  · refine two_ro hI0 (-1) (by simp only [zR]; omega) ?_ ?_
    · rw [e_X11_late, show xF = 999999 + 1 from rfl, l_X11_late_0]
      repeat' (first | (with_reducible apply hs_f; (case h => (first | (simp (disch := (first | exact hz _ _ | exact hv _ | exact hL | assumption | (simp (disch := decide) only [zup_ne]; exact hL) | (simp only [zR]; omega) | omega)) only [zLit, zI_div, hI_fs, hI_us, zI_add, zI_sub, zI_mul, zI_neg, zI_lt, zI_eq, zI_ite, xbd_s, zI_nat, zld, zst, zbd, zB_0, zB_1, lenX_s, zup_at, xgd, cond_true, cond_false, and_self, and_true, true_and, false_and, and_false, or_self, or_false, false_or, if_true, if_false, ite_true, ite_false, reduceIte, reduceCtorEq, Nat.reduceEqDiff, Nat.reduceAdd, Nat.reduceMul, Int.reduceNeg, Int.reduceAdd, Int.reduceSub, Int.reduceMul, Int.reduceLT, Int.reduceLE, Int.reduceEq, Int.reduceDiv, Int.reduceMod, Int.reduceToNat, Int.toNat_zero, Int.toNat_one, Nat.reduceLeDiff, Nat.reduceLT, ite_not, not_true, not_false_eq_true, r7] <;> omega) | omega))) | (with_reducible apply hs_t; (case h => (first | (simp (disch := (first | exact hz _ _ | exact hv _ | exact hL | assumption | (simp (disch := decide) only [zup_ne]; exact hL) | (simp only [zR]; omega) | omega)) only [zLit, zI_div, hI_fs, hI_us, zI_add, zI_sub, zI_mul, zI_neg, zI_lt, zI_eq, zI_ite, xbd_s, zI_nat, zld, zst, zbd, zB_0, zB_1, lenX_s, zup_at, xgd, cond_true, cond_false, and_self, and_true, true_and, false_and, and_false, or_self, or_false, false_or, if_true, if_false, ite_true, ite_false, reduceIte, reduceCtorEq, Nat.reduceEqDiff, Nat.reduceAdd, Nat.reduceMul, Int.reduceNeg, Int.reduceAdd, Int.reduceSub, Int.reduceMul, Int.reduceLT, Int.reduceLE, Int.reduceEq, Int.reduceDiv, Int.reduceMod, Int.reduceToNat, Int.toNat_zero, Int.toNat_one, Nat.reduceLeDiff, Nat.reduceLT, ite_not, not_true, not_false_eq_true, r7] <;> omega) | omega))) | (with_reducible apply hs_b; (case h => (simp (disch := (first | exact hz _ _ | exact hv _ | exact hL | assumption | (simp (disch := decide) only [zup_ne]; exact hL) | (simp only [zR]; omega) | omega)) only [zLit, zI_div, hI_fs, hI_us, zI_add, zI_sub, zI_mul, zI_neg, zI_lt, zI_eq, zI_ite, xbd_s, zI_nat, zld, zst, zbd, zB_0, zB_1, lenX_s, zup_at, xgd, cond_true, cond_false, and_self, and_true, true_and, false_and, and_false, or_self, or_false, false_or, if_true, if_false, ite_true, ite_false, reduceIte, reduceCtorEq, Nat.reduceEqDiff, Nat.reduceAdd, Nat.reduceMul, Int.reduceNeg, Int.reduceAdd, Int.reduceSub, Int.reduceMul, Int.reduceLT, Int.reduceLE, Int.reduceEq, Int.reduceDiv, Int.reduceMod, Int.reduceToNat, Int.toNat_zero, Int.toNat_one, Nat.reduceLeDiff, Nat.reduceLT, ite_not, not_true, not_false_eq_true, r7, c_rHas]; rfl)); try dsimp only) | (with_reducible apply hs_c <;> intro q9 <;> (try simp (disch := (first | exact hz _ _ | exact hv _ | exact hL | assumption | (simp (disch := decide) only [zup_ne]; exact hL) | (simp only [zR]; omega) | omega)) only [zLit, zI_div, hI_fs, hI_us, zI_add, zI_sub, zI_mul, zI_neg, zI_lt, zI_eq, zI_ite, xbd_s, zI_nat, zld, zst, zbd, zB_0, zB_1, lenX_s, zup_at, xgd, cond_true, cond_false, and_self, and_true, true_and, false_and, and_false, or_self, or_false, false_or, if_true, if_false, ite_true, ite_false, reduceIte, reduceCtorEq, Nat.reduceEqDiff, Nat.reduceAdd, Nat.reduceMul, Int.reduceNeg, Int.reduceAdd, Int.reduceSub, Int.reduceMul, Int.reduceLT, Int.reduceLE, Int.reduceEq, Int.reduceDiv, Int.reduceMod, Int.reduceToNat, Int.toNat_zero, Int.toNat_one, Nat.reduceLeDiff, Nat.reduceLT, ite_not, not_true, not_false_eq_true, r7] at q9)))
      all_goals first | rfl | omega | (simp (maxSteps := 3000000) (disch := (first | exact hz _ _ | exact hv _ | exact hL | assumption | (simp (disch := decide) only [zup_ne]; exact hL) | (simp only [zR]; omega) | omega)) only [zLit, zI_div, hI_fs, hI_us, zI_add, zI_sub, zI_mul, zI_neg, zI_lt, zI_eq, zI_ite, xbd_s, zI_nat, zld, zst, zbd, zB_0, zB_1, lenX_s, zup_at, xgd, cond_true, cond_false, and_self, and_true, true_and, false_and, and_false, or_self, or_false, false_or, if_true, if_false, ite_true, ite_false, reduceIte, reduceCtorEq, Nat.reduceEqDiff, Nat.reduceAdd, Nat.reduceMul, Int.reduceNeg, Int.reduceAdd, Int.reduceSub, Int.reduceMul, Int.reduceLT, Int.reduceLE, Int.reduceEq, Int.reduceDiv, Int.reduceMod, Int.reduceToNat, Int.toNat_zero, Int.toNat_one, Nat.reduceLeDiff, Nat.reduceLT, ite_not, not_true, not_false_eq_true]; done) | (simp (maxSteps := 3000000) (disch := (first | exact hz _ _ | exact hv _ | exact hL | assumption | (simp (disch := decide) only [zup_ne]; exact hL) | (simp only [zR]; omega) | omega)) only [zLit, zI_div, hI_fs, hI_us, zI_add, zI_sub, zI_mul, zI_neg, zI_lt, zI_eq, zI_ite, xbd_s, zI_nat, zld, zst, zbd, zB_0, zB_1, lenX_s, zup_at, xgd, cond_true, cond_false, and_self, and_true, true_and, false_and, and_false, or_self, or_false, false_or, if_true, if_false, ite_true, ite_false, reduceIte, reduceCtorEq, Nat.reduceEqDiff, Nat.reduceAdd, Nat.reduceMul, Int.reduceNeg, Int.reduceAdd, Int.reduceSub, Int.reduceMul, Int.reduceLT, Int.reduceLE, Int.reduceEq, Int.reduceDiv, Int.reduceMod, Int.reduceToNat, Int.toNat_zero, Int.toNat_one, Nat.reduceLeDiff, Nat.reduceLT, ite_not, not_true, not_false_eq_true]; rfl)
    · rw [e_X12_late, show xF = 999999 + 1 from rfl, l_X12_late_0]
      repeat' (first | (with_reducible apply hs_f; (case h => (first | (simp (disch := (first | exact hz _ _ | exact hv _ | exact hL | assumption | (simp (disch := decide) only [zup_ne]; exact hL) | (simp only [zR]; omega) | omega)) only [zLit, zI_div, hI_fs, hI_us, zI_add, zI_sub, zI_mul, zI_neg, zI_lt, zI_eq, zI_ite, xbd_s, zI_nat, zld, zst, zbd, zB_0, zB_1, lenX_s, zup_at, xgd, cond_true, cond_false, and_self, and_true, true_and, false_and, and_false, or_self, or_false, false_or, if_true, if_false, ite_true, ite_false, reduceIte, reduceCtorEq, Nat.reduceEqDiff, Nat.reduceAdd, Nat.reduceMul, Int.reduceNeg, Int.reduceAdd, Int.reduceSub, Int.reduceMul, Int.reduceLT, Int.reduceLE, Int.reduceEq, Int.reduceDiv, Int.reduceMod, Int.reduceToNat, Int.toNat_zero, Int.toNat_one, Nat.reduceLeDiff, Nat.reduceLT, ite_not, not_true, not_false_eq_true] <;> omega) | omega))) | (with_reducible apply hs_t; (case h => (first | (simp (disch := (first | exact hz _ _ | exact hv _ | exact hL | assumption | (simp (disch := decide) only [zup_ne]; exact hL) | (simp only [zR]; omega) | omega)) only [zLit, zI_div, hI_fs, hI_us, zI_add, zI_sub, zI_mul, zI_neg, zI_lt, zI_eq, zI_ite, xbd_s, zI_nat, zld, zst, zbd, zB_0, zB_1, lenX_s, zup_at, xgd, cond_true, cond_false, and_self, and_true, true_and, false_and, and_false, or_self, or_false, false_or, if_true, if_false, ite_true, ite_false, reduceIte, reduceCtorEq, Nat.reduceEqDiff, Nat.reduceAdd, Nat.reduceMul, Int.reduceNeg, Int.reduceAdd, Int.reduceSub, Int.reduceMul, Int.reduceLT, Int.reduceLE, Int.reduceEq, Int.reduceDiv, Int.reduceMod, Int.reduceToNat, Int.toNat_zero, Int.toNat_one, Nat.reduceLeDiff, Nat.reduceLT, ite_not, not_true, not_false_eq_true] <;> omega) | omega))) | (with_reducible apply hs_b; (case h => (simp (disch := (first | exact hz _ _ | exact hv _ | exact hL | assumption | (simp (disch := decide) only [zup_ne]; exact hL) | (simp only [zR]; omega) | omega)) only [zLit, zI_div, hI_fs, hI_us, zI_add, zI_sub, zI_mul, zI_neg, zI_lt, zI_eq, zI_ite, xbd_s, zI_nat, zld, zst, zbd, zB_0, zB_1, lenX_s, zup_at, xgd, cond_true, cond_false, and_self, and_true, true_and, false_and, and_false, or_self, or_false, false_or, if_true, if_false, ite_true, ite_false, reduceIte, reduceCtorEq, Nat.reduceEqDiff, Nat.reduceAdd, Nat.reduceMul, Int.reduceNeg, Int.reduceAdd, Int.reduceSub, Int.reduceMul, Int.reduceLT, Int.reduceLE, Int.reduceEq, Int.reduceDiv, Int.reduceMod, Int.reduceToNat, Int.toNat_zero, Int.toNat_one, Nat.reduceLeDiff, Nat.reduceLT, ite_not, not_true, not_false_eq_true, m_is]; rfl)); try dsimp only) | (with_reducible apply hs_c <;> intro q9 <;> (try simp (disch := (first | exact hz _ _ | exact hv _ | exact hL | assumption | (simp (disch := decide) only [zup_ne]; exact hL) | (simp only [zR]; omega) | omega)) only [zLit, zI_div, hI_fs, hI_us, zI_add, zI_sub, zI_mul, zI_neg, zI_lt, zI_eq, zI_ite, xbd_s, zI_nat, zld, zst, zbd, zB_0, zB_1, lenX_s, zup_at, xgd, cond_true, cond_false, and_self, and_true, true_and, false_and, and_false, or_self, or_false, false_or, if_true, if_false, ite_true, ite_false, reduceIte, reduceCtorEq, Nat.reduceEqDiff, Nat.reduceAdd, Nat.reduceMul, Int.reduceNeg, Int.reduceAdd, Int.reduceSub, Int.reduceMul, Int.reduceLT, Int.reduceLE, Int.reduceEq, Int.reduceDiv, Int.reduceMod, Int.reduceToNat, Int.toNat_zero, Int.toNat_one, Nat.reduceLeDiff, Nat.reduceLT, ite_not, not_true, not_false_eq_true] at q9)))
      all_goals first | rfl | omega | (simp (maxSteps := 3000000) (disch := (first | exact hz _ _ | exact hv _ | exact hL | assumption | (simp (disch := decide) only [zup_ne]; exact hL) | (simp only [zR]; omega) | omega)) only [zLit, zI_div, hI_fs, hI_us, zI_add, zI_sub, zI_mul, zI_neg, zI_lt, zI_eq, zI_ite, xbd_s, zI_nat, zld, zst, zbd, zB_0, zB_1, lenX_s, zup_at, xgd, cond_true, cond_false, and_self, and_true, true_and, false_and, and_false, or_self, or_false, false_or, if_true, if_false, ite_true, ite_false, reduceIte, reduceCtorEq, Nat.reduceEqDiff, Nat.reduceAdd, Nat.reduceMul, Int.reduceNeg, Int.reduceAdd, Int.reduceSub, Int.reduceMul, Int.reduceLT, Int.reduceLE, Int.reduceEq, Int.reduceDiv, Int.reduceMod, Int.reduceToNat, Int.toNat_zero, Int.toNat_one, Nat.reduceLeDiff, Nat.reduceLT, ite_not, not_true, not_false_eq_true]; done) | (simp (maxSteps := 3000000) (disch := (first | exact hz _ _ | exact hv _ | exact hL | assumption | (simp (disch := decide) only [zup_ne]; exact hL) | (simp only [zR]; omega) | omega)) only [zLit, zI_div, hI_fs, hI_us, zI_add, zI_sub, zI_mul, zI_neg, zI_lt, zI_eq, zI_ite, xbd_s, zI_nat, zld, zst, zbd, zB_0, zB_1, lenX_s, zup_at, xgd, cond_true, cond_false, and_self, and_true, true_and, false_and, and_false, or_self, or_false, false_or, if_true, if_false, ite_true, ite_false, reduceIte, reduceCtorEq, Nat.reduceEqDiff, Nat.reduceAdd, Nat.reduceMul, Int.reduceNeg, Int.reduceAdd, Int.reduceSub, Int.reduceMul, Int.reduceLT, Int.reduceLE, Int.reduceEq, Int.reduceDiv, Int.reduceMod, Int.reduceToNat, Int.toNat_zero, Int.toNat_one, Nat.reduceLeDiff, Nat.reduceLT, ite_not, not_true, not_false_eq_true]; rfl)
