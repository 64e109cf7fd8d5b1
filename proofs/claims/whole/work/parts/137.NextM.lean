/-! PURE, part 67: the model takes the next part in view -/
def MT (T : Int → Int) (n : Int) (z : zH) : Prop := z 100 4 = n ∧ ∀ j, 0 ≤ j → j < n → z 103 j = T j % 256
theorem MT_t {T : Int → Int} {n : Int} {z z' : zH} (h : MT T n z) (e4 : z' 100 4 = z 100 4) (e3 : z' 103 = z 103) : MT T n z' := by
  unfold MT
  rw [e4, e3]
  exact h
def so (T : Int → Int) (n p : Int) : Int := if n ≤ p then 0 else if isL (T p) then 1 else if isD (T p) then 2 else 3
theorem m_isIn (d : Nat) {z : zH} (hz : zRR z) {T : Int → Int} {n : Int} (hT : tpB T n) (hM : MT T n z) {p lo hi : Int} (hp : 0 ≤ p ∧ p ≤ 1000) (hl : 0 ≤ lo ∧ lo ≤ 127 ∧ 0 ≤ hi ∧ hi ≤ 127) : cM (d + 2) 209 [xR 28 100, xI (zI p), xI (zI lo), xI (zI hi)] (hI z) = some (zB (p < n ∧ lo ≤ T p ∧ T p ≤ hi), hI z) := by
  have pr : zR p := zR_s (by omega)
  have hn := hT.1
  rw [e_X12_isIn]
  simp only [zLit, hI_fs, hM.1]
  by_cases q : p < n
  · have b := bnd (a := p) (n := 240) hp.1 (by omega) (by omega)
    have tb := hT.2 p hp.1 q
    have e3 := hM.2 p hp.1 q
    have mw := fun d h => m_within d (a := T p % 256) (b := lo) (c := hi) (zR_s (by omega)) (zR_s (by omega)) (zR_s (by omega)) h
    rw [if_pos (by rw [zI_lt pr (zR_s (by omega))]; exact q)]
    simp only [lenX_s, if_neg b]
    simp only [zI_nat pr, zld hp.1, e3]
    simp only [mw, xbd_n, zB_0]
    by_cases w : lo ≤ T p ∧ T p ≤ hi
    · rw [if_neg (fun x => x (by omega))]
      exact congrArg (fun t => some (t, hI z)) (zB_t ⟨q, w⟩)
    · rw [if_pos (by omega)]
      exact congrArg (fun t => some (t, hI z)) (zB_f (fun x => w x.2))
  · rw [if_neg (by rw [zI_lt pr (zR_s (by omega))]; exact q)]
    exact congrArg (fun t => some (t, hI z)) (zB_f (fun x => q x.1))
theorem m_run1 (d : Nat) {T : Int → Int} {n : Int} (hT : tpB T n) {s lo hi : Int} (hs : (s = 1 ∧ lo = 97 ∧ hi = 122) ∨ (s = 2 ∧ lo = 48 ∧ hi = 57)) : ∀ (g : Nat) (e : Int) (z : zH), zRR z → MT T n z → z 100 20 = e → z 100 21 = s → 0 ≤ e → e ≤ n → n ≤ e + g → ∀ N, g < N → xw (r_X12_next (d + 2) N 124 [some (xR 28 100)] [] (hI z)) (fun _ z' => z' 100 20 = rl T n lo hi g e ∧ fr [100] z z' ∧ ff [20] z z') := by
  have h0r : zR 0 := zR_s (by omega)
  have hn := hT.1
  have n21 : ¬ zI 2 = zI 1 := by decide
  intro g
  induction g with
  | zero =>
    intro e z hz hM e20 e21 e0 en hg N hN
    obtain ⟨N, rfl⟩ := Nat.exists_eq_succ_of_ne_zero (show N ≠ 0 by omega)
    have m1 := fun d => m_isIn d hz hT hM (p := e) (lo := 97) (hi := 122) ⟨e0, by omega⟩ (by omega)
    have m2 := fun d => m_isIn d hz hT hM (p := e) (lo := 48) (hi := 57) ⟨e0, by omega⟩ (by omega)
    rw [l_X12_next_124]
    simp only [zLit, hI_fs, e20, e21]
    rcases hs with ⟨s1, s2, s3⟩ | ⟨s1, s2, s3⟩ <;> subst s1
    · simp only [if_true, m1, xbd_n, zB_0]
      rw [if_pos (by omega)]
      simp only [hI_fs, e21]
      rw [if_neg (by decide)]
      exact xw_ret h0r hz ⟨e20, fr_rf _ _, ff_rf _ _⟩
    · simp only [if_neg n21, if_true, m2, xbd_n, zB_0]
      rw [if_pos (by omega)]
      exact xw_ret h0r hz ⟨e20, fr_rf _ _, ff_rf _ _⟩
  | succ g ih =>
    intro e z hz hM e20 e21 e0 en hg N hN
    obtain ⟨N, rfl⟩ := Nat.exists_eq_succ_of_ne_zero (show N ≠ 0 by omega)
    have m1 := fun d => m_isIn d hz hT hM (p := e) (lo := 97) (hi := 122) ⟨e0, by omega⟩ (by omega)
    have m2 := fun d => m_isIn d hz hT hM (p := e) (lo := 48) (hi := 57) ⟨e0, by omega⟩ (by omega)
    have nx : (e < n ∧ lo ≤ T e ∧ T e ≤ hi) → xw (r_X12_next (d + 2) N 124 [some (xR 28 100)] [] (hI (zup z 100 20 (e + 1)))) (fun _ z' => z' 100 20 = rl T n lo hi (g + 1) e ∧ fr [100] z z' ∧ ff [20] z z') := by
      intro q
      refine xw_m (ih (e + 1) (zup z 100 20 (e + 1)) (zRR_up hz _ _ (zR_s (by omega))) (MT_t hM (by rw [zup_at, if_neg (by omega)]) (zup_ne _ _ _ (by decide))) (by rw [zup_at, if_pos ⟨rfl, rfl⟩]) (by rw [zup_at, if_neg (by omega)]; exact e21) (by omega) (by omega) (by omega) N (by omega)) ?_
      intro r z1 _ _ ⟨a1, a2, a3⟩
      refine ⟨?_, fr_tr (fr_up (fr_rf [100] _) _ _ rfl) a2 rfl, ff_tr (ff_up (ff_rf [20] _) _ rfl) a3 rfl⟩
      rw [a1, rl, if_pos q]
    have st : ¬ (e < n ∧ lo ≤ T e ∧ T e ≤ hi) → e = rl T n lo hi (g + 1) e := by
      intro q
      rw [rl, if_neg q]
    rw [l_X12_next_124]
    simp only [zLit, hI_fs, e20, e21]
    rcases hs with ⟨s1, s2, s3⟩ | ⟨s1, s2, s3⟩ <;> subst s1 <;> subst s2 <;> subst s3
    · simp only [if_true, m1, xbd_n, zB_0, hI_fs, hI_us, e20, e21, zI_add]
      by_cases q : e < n ∧ 97 ≤ T e ∧ T e ≤ 122
      · rw [if_neg (fun x => x q)]
        exact nx q
      · rw [if_pos q, if_neg (by decide)]
        exact xw_ret h0r hz ⟨e20.trans (st q), fr_rf _ _, ff_rf _ _⟩
    · simp only [if_neg n21, if_true, m2, xbd_n, zB_0, hI_fs, hI_us, e20, e21, zI_add]
      by_cases q : e < n ∧ 48 ≤ T e ∧ T e ≤ 57
      · rw [if_neg (fun x => x q)]
        exact nx q
      · rw [if_pos q]
        exact xw_ret h0r hz ⟨e20.trans (st q), fr_rf _ _, ff_rf _ _⟩
def MV (T : Int → Int) (n : Int) (z : zH) (p : Int) : Prop := z 100 19 = p ∧ z 100 20 = rn T n p ∧ z 100 21 = so T n p
theorem m_next_l (d : Nat) {T : Int → Int} {n : Int} (hT : tpB T n) : ∀ (f : Nat) (p : Int) (z : zH), zRR z → MT T n z → z 100 19 = p → 0 ≤ p → p ≤ n → n ≤ p + f → ∀ N, f + 250 < N → xw (r_X12_next (d + 2) N 8 [some (xR 28 100)] [] (hI z)) (fun _ z' => MV T n z' (sk T n p) ∧ fr [100] z z' ∧ ff [19, 20, 21] z z') := by
  have h0r : zR 0 := zR_s (by omega)
  have hn := hT.1
  intro f
  induction f with
  | zero =>
    intro p z hz hM e19 p0 pn hf N hN
    obtain ⟨N, rfl⟩ := Nat.exists_eq_succ_of_ne_zero (show N ≠ 0 by omega)
    have ep : p = n := by omega
    rw [l_X12_next_8]
    simp only [zLit, hI_fs, hM.1, e19, hI_us]
    rw [if_neg (by rw [zI_lt (zR_s (by omega)) (zR_s (by omega))]; omega), if_pos (by rw [ep])]
    refine xw_ret h0r (zRR_up (zRR_up hz _ _ (zR_s (by omega))) _ _ h0r) ⟨?_, fr_up (fr_up (fr_rf _ _) _ _ rfl) _ _ rfl, ff_up (ff_up (ff_rf _ _) _ rfl) _ rfl⟩
    rw [sk_e (by omega)]
    refine ⟨?_, ?_, ?_⟩
    · rw [zup_at, if_neg (by omega), zup_at, if_neg (by omega)]; exact e19
    · rw [zup_at, if_neg (by omega), zup_at, if_pos ⟨rfl, rfl⟩]
      unfold rn
      rw [if_pos (by omega)]
    · rw [zup_at, if_pos ⟨rfl, rfl⟩]
      unfold so
      rw [if_pos (by omega)]
  | succ f ih =>
    intro p z hz hM e19 p0 pn hf N hN
    obtain ⟨N, rfl⟩ := Nat.exists_eq_succ_of_ne_zero (show N ≠ 0 by omega)
    have pr : zR p := zR_s (by omega)
    by_cases q : p < n
    · have b := bnd (a := p) (n := 240) p0 (by omega) (by omega)
      have tb := hT.2 p p0 q
      have e3 := hM.2 p p0 q
      have rb := rn_b (T := T) q
      rw [l_X12_next_8]
      simp only [zLit, hI_fs, hM.1, e19, lenX_s, if_neg b]
      simp only [zI_nat pr, zld p0, e3, hI_us, zI_add]
      rw [if_pos (by rw [zI_lt pr (zR_s (by omega))]; exact q)]
      by_cases w : T p = 32
      · rw [if_pos (by rw [w]; rfl)]
        refine xw_m (ih (p + 1) (zup z 100 19 (p + 1)) (zRR_up hz _ _ (zR_s (by omega))) (MT_t hM (by rw [zup_at, if_neg (by omega)]) (zup_ne _ _ _ (by decide))) (by rw [zup_at, if_pos ⟨rfl, rfl⟩]) (by omega) (by omega) (by omega) N (by omega)) ?_
        intro r z1 _ _ ⟨a1, a2, a3⟩
        rw [sk_y ⟨p0, q⟩ hn.2 w]
        exact ⟨a1, fr_tr (fr_up (fr_rf [100] _) _ _ rfl) a2 rfl, ff_tr (ff_up (ff_rf [19, 20, 21] _) _ rfl) a3 rfl⟩
      · rw [if_neg (by rw [zI_eq (zR_s (by omega)) (zR_s (by omega))]; omega), if_neg (by rw [zI_eq pr (zR_s (by omega))]; omega), sk_n w]
        obtain ⟨z2, hz2e⟩ : ∃ z2, z2 = zup z 100 20 p := ⟨_, rfl⟩
        rw [← hz2e]
        have hz2 : zRR z2 := by rw [hz2e]; exact zRR_up hz _ _ pr
        have k19 : z2 100 19 = p := by rw [hz2e, zup_at, if_neg (by omega)]; exact e19
        have k20 : z2 100 20 = p := by rw [hz2e, zup_at, if_pos ⟨rfl, rfl⟩]
        have M2 : MT T n z2 := MT_t hM (by rw [hz2e, zup_at, if_neg (by omega)]) (by rw [hz2e]; exact zup_ne _ _ _ (by decide))
        have f2 : fr [100] z z2 := by rw [hz2e]; exact fr_up (fr_rf _ _) _ _ rfl
        have g2 : ff [19, 20, 21] z z2 := by rw [hz2e]; exact ff_up (ff_rf _ _) _ rfl
        have m1 := fun d => m_isIn d hz2 hT M2 (p := p) (lo := 97) (hi := 122) ⟨p0, by omega⟩ (by omega)
        have m2 := fun d => m_isIn d hz2 hT M2 (p := p) (lo := 48) (hi := 57) ⟨p0, by omega⟩ (by omega)
        have go : ∀ (s lo hi : Int), ((s = 1 ∧ lo = 97 ∧ hi = 122) ∨ (s = 2 ∧ lo = 48 ∧ hi = 57)) → so T n p = s → rn T n p = rl T n lo hi 240 (p + 1) → xw (r_X12_next (d + 2) N 124 [some (xR 28 100)] [] (hI (zup (zup z2 100 21 s) 100 20 (p + 1)))) (fun _ z' => MV T n z' p ∧ fr [100] z z' ∧ ff [19, 20, 21] z z') := by
          intro s lo hi hs e1 e2
          have y : zRR (zup (zup z2 100 21 s) 100 20 (p + 1)) := zRR_up (zRR_up hz2 _ _ (by rcases hs with h | h <;> exact zR_s (by omega))) _ _ (zR_s (by omega))
          refine xw_m (m_run1 d hT hs 240 (p + 1) _ y (MT_t M2 (by rw [zup_at, if_neg (by omega), zup_at, if_neg (by omega)]) (by rw [zup_ne _ _ _ (by decide), zup_ne _ _ _ (by decide)])) (by rw [zup_at, if_pos ⟨rfl, rfl⟩]) (by rw [zup_at, if_neg (by omega), zup_at, if_pos ⟨rfl, rfl⟩]) (by omega) (by omega) (by omega) N (by omega)) ?_
          intro r z3 _ _ ⟨a1, a2, a3⟩
          have g3 : ff [19, 20, 21] z2 z3 := ff_tr (ff_up (ff_up (ff_rf [19, 20, 21] _) _ rfl) _ rfl) (ff_mono a3 (T := [19, 20, 21]) rfl) rfl
          refine ⟨⟨?_, by rw [a1, e2], ?_⟩, fr_tr f2 (fr_tr (fr_up (fr_up (fr_rf [100] _) _ _ rfl) _ _ rfl) a2 rfl) rfl, ff_tr g2 g3 rfl⟩
          · rw [a3 19 rfl, zup_at, if_neg (by omega), zup_at, if_neg (by omega)]; exact k19
          · rw [a3 21 rfl, zup_at, if_neg (by omega), zup_at, if_pos ⟨rfl, rfl⟩]; exact e1.symm
        simp only [m1, xbd_n, zB_0, hI_fs, k19, k20, hI_us, zI_add]
        by_cases wl : isL (T p)
        · rw [if_neg (fun x => x ⟨q, wl⟩)]
          have e20' : zup z2 100 21 1 100 20 = p := by rw [zup_at, if_neg (by omega)]; exact k20
          (try simp only [e20'])
          exact go 1 97 122 (Or.inl ⟨rfl, rfl, rfl⟩) (by unfold so; rw [if_neg (by omega), if_pos wl]) (by unfold rn; rw [if_neg (by omega), if_pos wl])
        · rw [if_pos (fun x => wl x.2)]
          simp only [m2, xbd_n, zB_0, hI_fs, k19, k20, hI_us, zI_add]
          by_cases wd : isD (T p)
          · rw [if_neg (fun x => x ⟨q, wd⟩)]
            exact go 2 48 57 (Or.inr ⟨rfl, rfl, rfl⟩) (by unfold so; rw [if_neg (by omega), if_neg wl, if_pos wd]) (by unfold rn; rw [if_neg (by omega), if_neg wl, if_pos wd])
          · rw [if_pos (fun x => wd x.2)]
            obtain ⟨N, rfl⟩ := Nat.exists_eq_succ_of_ne_zero (show N ≠ 0 by omega)
            have y : zRR (zup (zup z2 100 21 3) 100 20 (p + 1)) := zRR_up (zRR_up hz2 _ _ (zR_s (by omega))) _ _ (zR_s (by omega))
            have s21 : zup (zup z2 100 21 3) 100 20 (p + 1) 100 21 = 3 := by rw [zup_at, if_neg (by omega), zup_at, if_pos ⟨rfl, rfl⟩]
            rw [l_X12_next_124]
            simp only [zLit, hI_fs, s21]
            rw [if_neg (by decide), if_neg (by decide)]
            refine xw_ret h0r y ⟨⟨?_, ?_, ?_⟩, fr_tr f2 (fr_up (fr_up (fr_rf [100] _) _ _ rfl) _ _ rfl) rfl, ff_tr g2 (ff_up (ff_up (ff_rf [19, 20, 21] _) _ rfl) _ rfl) rfl⟩
            · rw [zup_at, if_neg (by omega), zup_at, if_neg (by omega)]; exact k19
            · rw [zup_at, if_pos ⟨rfl, rfl⟩]
              unfold rn
              rw [if_neg (by omega), if_neg wl, if_neg wd]
            · rw [s21]
              unfold so
              rw [if_neg (by omega), if_neg wl, if_neg wd]
    · rw [l_X12_next_8]
      simp only [zLit, hI_fs, hM.1, e19, hI_us]
      have ep : p = n := by omega
      rw [if_neg (by rw [zI_lt pr (zR_s (by omega))]; omega), if_pos (by rw [ep])]
      refine xw_ret h0r (zRR_up (zRR_up hz _ _ pr) _ _ h0r) ⟨?_, fr_up (fr_up (fr_rf _ _) _ _ rfl) _ _ rfl, ff_up (ff_up (ff_rf _ _) _ rfl) _ rfl⟩
      rw [sk_e (by omega)]
      refine ⟨?_, ?_, ?_⟩
      · rw [zup_at, if_neg (by omega), zup_at, if_neg (by omega)]; exact e19
      · rw [zup_at, if_neg (by omega), zup_at, if_pos ⟨rfl, rfl⟩]
        unfold rn
        rw [if_pos (by omega)]
      · rw [zup_at, if_pos ⟨rfl, rfl⟩]
        unfold so
        rw [if_pos (by omega)]
theorem m_next (d : Nat) {T : Int → Int} {n : Int} (hT : tpB T n) {z : zH} (hz : zRR z) (hM : MT T n z) {t : Int} (e20 : z 100 20 = t) (ht : 0 ≤ t ∧ t ≤ n) : xw (cM (d + 3) 210 [xR 28 100] (hI z)) (fun _ z' => MV T n z' (sk T n t) ∧ fr [100] z z' ∧ ff [19, 20, 21] z z') := by
  have hn := hT.1
  rw [e_X12_next, show xF = 999999 + 1 from rfl, l_X12_next_0]
  simp only [hI_fs, e20, hI_us]
  refine xw_m (m_next_l d hT 240 t (zup z 100 19 t) (zRR_up hz _ _ (zR_s (by omega))) (MT_t hM (by rw [zup_at, if_neg (by omega)]) (zup_ne _ _ _ (by decide))) (by rw [zup_at, if_pos ⟨rfl, rfl⟩]) ht.1 ht.2 (by omega) 999999 (by omega)) ?_
  intro r z1 _ _ ⟨a1, a2, a3⟩
  exact ⟨a1, fr_tr (fr_up (fr_rf [100] _) _ _ rfl) a2 rfl, ff_tr (ff_up (ff_rf [19, 20, 21] _) _ rfl) a3 rfl⟩
