/-! PURE, part 66: split -/
theorem c_split_l (d : Nat) {T : Int → Int} {n : Int} (hT : tpB T n) {z0 : zH} (h1 : z0 55 1 = n) (h56 : z0 56 = T) : ∀ (f : Nat) (p i : Int) (k : Nat) (z : zH), zRR z → SpI T n z0 z k → 0 ≤ p → p ≤ n → 0 ≤ i → i + f = 240 → n - p ≤ f → sk T n p = stN T n k → k ≤ i → ∀ N, 300 * f + 2 < N → xw (r_X9_split (d + 5) N 9 [some (xR 25 55), some (xI (zI p)), some (xI (zI i)), none, none, none] [] (hI z)) (fun _ z' => PSp T n z0 z') := by
  have hn := hT.1
  intro f
  induction f with
  | zero =>
    intro p i k z hz hS p0 pn i0 ig hf hs hk N hN
    obtain ⟨N, rfl⟩ := Nat.exists_eq_succ_of_ne_zero (show N ≠ 0 by omega)
    have e1 : z 55 1 = n := by rw [hS.2.2.2 1 (by omega)]; exact h1
    have E := c_split_e (d + 4) hz hn e1 (k := k) (by omega) hS (p := p) (by omega) hs pn
    rw [l_X9_split_9]
    simp only [zLit]
    rw [if_neg (by rw [zI_lt (zR_s (by omega)) (zR_s (by omega))]; omega)]
    exact E
  | succ f ih =>
    intro p i k z hz hS p0 pn i0 ig hf hs hk N hN
    obtain ⟨N, rfl⟩ := Nat.exists_eq_succ_of_ne_zero (show N ≠ 0 by omega)
    have e1 : z 55 1 = n := by rw [hS.2.2.2 1 (by omega)]; exact h1
    have e56 : z 56 = T := by rw [hS.2.2.1 56 rfl]; exact h56
    by_cases q : p < n
    · have tb := hT.2 p p0 q
      have Tr : zR (T p) := zR_s (by omega)
      have ca := fun d => c_at d hz hn e1 e56 (p := p) ⟨p0, by omega⟩
      have cl := fun d h => c_isLet d Tr h
      have cd := fun d h => c_isDig d Tr h
      rw [l_X9_split_9]
      simp only [zLit, hI_fs, e1, zI_add]
      rw [if_pos (by rw [zI_lt (zR_s (by omega)) (zR_s (by omega))]; omega), if_pos (by rw [zI_lt (zR_s (by omega)) (zR_s (by omega))]; omega)]
      simp only [ca, xbd_n, if_pos q]
      simp only [cl, xbd_n, zB_0]
      by_cases wb : T p = 32
      · rw [if_pos (by omega)]
        simp only [cd, xbd_n, zB_0]
        rw [if_pos (by omega), if_pos (by rw [wb])]
        exact ih (p + 1) (i + 1) k z hz hS (by omega) (by omega) (by omega) (by omega) (by omega) (by rw [← hs]; exact (sk_y ⟨p0, q⟩ hn.2 wb).symm) (by omega) N (by omega)
      · have sp : stN T n k = p := by rw [← hs, sk_n wb]
        have rb := rn_b (T := T) q
        have snx : sk T n (rn T n p) = stN T n (k + 1) := by show _ = sk T n (rn T n (stN T n k)); rw [sp]
        have nx : ∀ (w : Int), zR w → (kd T n p ≠ 4 → w = wt T n p) → ∀ N, 300 * f + 2 < N → xw (xbd (cM (d + 5) 71 [xR 25 55, xI (zI p), xI (zI (kd T n p)), xI (zI w)] (hI z)) fun r7 h8 => r_X9_split (d + 5) N 9 [some (xR 25 55), some (xI (zI (rn T n p))), some (xI (zI (i + 1))), none, none, none] [] h8) (fun _ z' => PSp T n z0 z') := by
          intro w wr hw N hN
          have cadd := fun d => c_tadd d hz (k := k) (p := p) (kk := kd T n p) (w := w) hS.1 (by omega)
          have S1 := SpI_add hS (w := w) (by rw [sp]; exact hw) (by rw [sp]; exact q)
          rw [sp] at S1
          simp only [cadd, xbd_n]
          have kb : zR (kd T n p) := by
            unfold kd
            split
            · exact zR_s (by omega)
            · split
              · exact zR_s (by omega)
              · split
                · split <;> exact zR_s (by omega)
                · exact zR_s (by omega)
          exact ih (rn T n p) (i + 1) (k + 1) _ (zRR_up (zRR_up (zRR_up (zRR_up hz _ _ (zR_s (by omega))) _ _ kb) _ _ wr) _ _ (zR_s (by omega))) S1 (by omega) (by omega) (by omega) (by omega) (by omega) snx (by omega) N hN
        by_cases wl : isL (T p)
        · rw [if_neg (fun x => x wl)]
          have ek : kd T n p = 1 := by unfold kd; rw [if_neg (by omega), if_pos wl]
          have ew := (kd_1 ek).2.2
          have er : rn T n p = rl T n 97 122 240 (p + 1) := by unfold rn; rw [if_neg (by omega), if_pos wl]
          refine c_run46 (d + 3) hz hT e1 e56 (E := rn T n p) p0 (300 * f + 3) ?_ 240 (p + 1) 0 (by omega) (by omega) (by omega) (by omega) er.symm N (by omega)
          intro N' hN'
          have cw := fun d => c_word d hz hT e1 e56 (p := p) (e := rn T n p) ⟨p0, by omega, rb.2⟩
          have wb2 := wdI_b T p (rn T n p)
          simp only [cw, xbd_n]
          have y := nx (wdI T p (rn T n p)) (zR_s (by omega)) (fun _ => ew.symm) N' (by omega)
          rw [ek] at y
          exact y
        · rw [if_pos wl]
          simp only [cd, xbd_n, zB_0]
          by_cases wd : isD (T p)
          · rw [if_neg (fun x => x wd)]
            have er : rn T n p = rl T n 48 57 240 (p + 1) := by unfold rn; rw [if_neg (by omega), if_neg wl, if_pos wd]
            have ek : kd T n p = if rn T n p - p ≤ 3 then 2 else 4 := by unfold kd; rw [if_neg (by omega), if_neg wl, if_pos wd]
            refine c_run100 (d + 3) hz hT e1 e56 (E := rn T n p) p0 ⟨by omega, rb.2⟩ (300 * f + 3) ?_ 240 (p + 1) 0 (by omega) (by omega) (by omega) (by omega) er.symm N (by omega)
            intro N' hN'
            have cg := fun d => c_digits d hz hn e1 e56 (p := p) (e := rn T n p) ⟨p0, by omega, rb.2⟩
            simp only [cg, xbd_n]
            obtain ⟨w, wr, ew⟩ := zI_ex (zI (dgF T (rn T n p - p).toNat p 0))
            rw [ew, ← ek]
            refine nx w wr (fun h4 => ?_) N' (by omega)
            by_cases y : rn T n p - p ≤ 3
            · rw [if_pos y] at ek
              have g := kd_2 hn.2 ek
              rw [← g.2.2.2.1] at ew
              have := (zI_eq (zR_s (by omega)) wr).mp ew
              exact this.symm
            · rw [if_neg y] at ek
              exact absurd ek h4
          · rw [if_pos wd, if_neg (by rw [zI_eq Tr (zR_s (by omega))]; exact wb)]
            have ek : kd T n p = 3 := by unfold kd; rw [if_neg (by omega), if_neg wl, if_neg wd]
            have er : rn T n p = p + 1 := by unfold rn; rw [if_neg (by omega), if_neg wl, if_neg wd]
            have y := nx (T p) Tr (fun _ => (kd_3 ek).2.2.2.symm) N (by omega)
            rw [ek, er] at y
            exact y
    · have E := c_split_e (d + 4) hz hn e1 (k := k) (by omega) hS (p := p) (by omega) hs pn
      rw [l_X9_split_9]
      simp only [zLit]
      rw [if_pos (by rw [zI_lt (zR_s (by omega)) (zR_s (by omega))]; omega), if_neg (by simp only [hI_fs, e1]; rw [zI_lt (zR_s (by omega)) (zR_s (by omega))]; omega)]
      exact E
theorem c_split (d : Nat) {T : Int → Int} {n : Int} (hT : tpB T n) {z : zH} (hz : zRR z) (h1 : z 55 1 = n) (h56 : z 56 = T) : xw (cM (d + 6) 70 [xR 25 55] (hI z)) (fun _ z' => PSp T n z z') := by
  have hn := hT.1
  have h0r : zR 0 := zR_s (by omega)
  rw [e_X9_split, show xF = 999999 + 1 from rfl, l_X9_split_0]
  simp only [zLit, hI_us]
  refine xw_m (c_split_l d hT (z0 := zup z 55 6 0) (by rw [zup_at, if_neg (by omega)]; exact h1) (by rw [zup_ne _ _ _ (by decide)]; exact h56) 240 0 0 0 (zup z 55 6 0) (zRR_up hz _ _ h0r) ⟨by rw [zup_at, if_pos ⟨rfl, rfl⟩]; rfl, fun j hj => absurd hj (by omega), fr_rf _ _, fun _ _ => rfl⟩ (by omega) (by omega) (by omega) (by omega) (by omega) rfl (by omega) 999999 (by omega)) ?_
  intro r z1 _ _ ⟨m, c1, c2, c3, c4⟩
  refine ⟨m, c1, c2, fr_tr (fr_up (fr_rf [55, 61, 62, 63] _) _ _ rfl) c3 rfl, fun q hq => ?_⟩
  rw [c4 q hq, zup_at, if_neg (fun w => hq w.2)]
