/-! PURE, part 58: reach and heightAt of the model, whole -/
theorem m_fill104 (d : Nat) {z : zH} : ∀ (m : Nat) (k : Int), 0 ≤ k → k + m = 768 → ∀ n, r_X12_reach d (n + 1 + m) 2 [some (xR 28 100), some (xI (zI k)), none, none, none] [] (hI (zfl z 104 (-1) k)) = r_X12_reach d n 24 [some (xR 28 100), some (xI (zI 0)), none, none, none] [] (hI (zfl z 104 (-1) 768)) := by
  intro m
  induction m with
  | zero =>
    intro k h0 h1 n
    have e : k = 768 := by omega
    subst e
    rw [show n + 1 + 0 = n + 1 from rfl, l_X12_reach_2]
    simp only [zLit]
    rw [if_neg (by decide)]
  | succ m ih =>
    intro k h0 h1 n
    have kr : zR k := zR_s (by omega)
    have bk := bnd (n := 768) h0 (by omega) (by omega)
    rw [show n + 1 + (m + 1) = (n + 1 + m) + 1 by omega, l_X12_reach_2]
    simp only [zLit, lenX_s, if_neg bk, zI_neg, zI_add]
    simp only [zI_nat kr, zst h0, zfl_up z 104 (-1) h0]
    rw [if_pos (by rw [zI_lt kr (zR_s (by omega))]; omega)]
    exact ih (k + 1) (by omega) (by omega) n
theorem m_fill105 (d : Nat) {z : zH} {Q : Int → zH → Prop} (X : ∀ n, 840000 < n → xw (r_X12_reach d (n + 1) 24 [some (xR 28 100), some (xI (zI 100)), none, none, none] [] (hI (zfl z 105 (-1) 100))) Q) : ∀ (m : Nat) (k : Int), 0 ≤ k → k + m = 100 → ∀ n, 840000 < n → xw (r_X12_reach d (n + 1 + m) 24 [some (xR 28 100), some (xI (zI k)), none, none, none] [] (hI (zfl z 105 (-1) k))) Q := by
  intro m
  induction m with
  | zero =>
    intro k h0 h1 n hn
    have e : k = 100 := by omega
    subst e
    exact X n hn
  | succ m ih =>
    intro k h0 h1 n hn
    have kr : zR k := zR_s (by omega)
    have bk := bnd (n := 100) h0 (by omega) (by omega)
    rw [show n + 1 + (m + 1) = (n + 1 + m) + 1 by omega, l_X12_reach_24]
    simp only [zLit, lenX_s, if_neg bk, zI_neg, zI_add]
    simp only [zI_nat kr, zst h0, zfl_up z 105 (-1) h0]
    rw [if_neg (by rw [zI_lt (zR_s (by omega)) kr]; omega)]
    exact ih (k + 1) (by omega) (by omega) n hn
theorem m_reach (d : Nat) {z : zH} (hz : zRR z) (hL : LandI (z 101)) (ok0 : okC (z 101) (crM z)) : xw (cM (d + 4) 181 [xR 28 100] (hI z)) (fun _ z' => PostM (z 101) (crM z) z z') := by
  have h0r : zR 0 := zR_s (by omega)
  have pb := plc_b hL ok0
  obtain ⟨z1, hz1e⟩ : ∃ z1, z1 = zup (zfl (zfl z 104 (-1) 768) 105 (-1) 100) 100 13 0 := ⟨_, rfl⟩
  have hz1 : zRR z1 := by rw [hz1e]; exact zRR_up (zRR_fl (zRR_fl hz _ _ (zR_s (by omega))) _ _ (zR_s (by omega))) _ _ h0r
  have fz1 : FZ z z1 := by
    rw [hz1e]
    refine ⟨fr_up (fr_fl (fr_fl (fr_rf _ _) _ _ rfl) _ _ rfl) _ _ rfl, ?_⟩
    refine ff_up ?_ _ rfl
    intro k hk
    rw [zfl_ne _ _ _ (by decide), zfl_ne _ _ _ (by decide)]
  have e104 : ∀ q, 0 ≤ q → q < 768 → z1 104 q = -1 := by
    intro q q0 q1
    rw [hz1e, zup_ne _ _ _ (by decide), zfl_ne _ _ _ (by decide), zfl_at _ ⟨q0, by omega⟩]
  have e105 : ∀ q, 0 ≤ q → q ≤ 99 → z1 105 q = -1 := by
    intro q q0 q1
    rw [hz1e, zup_ne _ _ _ (by decide), zfl_at _ ⟨q0, by omega⟩]
  have e13 : z1 100 13 = 0 := by rw [hz1e, zup_row, mPut_s]
  have x5 : z1 100 5 = z 100 5 := by rw [hz1e, zup_row, mPut_o (by decide), zfl_ne _ _ _ (by decide), zfl_ne _ _ _ (by decide)]
  have x6 : z1 100 6 = z 100 6 := by rw [hz1e, zup_row, mPut_o (by decide), zfl_ne _ _ _ (by decide), zfl_ne _ _ _ (by decide)]
  have x7 : z1 100 7 = z 100 7 := by rw [hz1e, zup_row, mPut_o (by decide), zfl_ne _ _ _ (by decide), zfl_ne _ _ _ (by decide)]
  have x8 : z1 100 8 = z 100 8 := by rw [hz1e, zup_row, mPut_o (by decide), zfl_ne _ _ _ (by decide), zfl_ne _ _ _ (by decide)]
  have C0 : MC z1 (fun _ => []) := fun H h0 h1 => ⟨e105 H h0 h1, List.nodup_nil, fun p hp => absurd hp (by simp)⟩
  obtain ⟨v, hv⟩ : ∃ v, v = z 101 := ⟨_, rfl⟩
  obtain ⟨c0, hc0⟩ : ∃ c0, c0 = crM z := ⟨_, rfl⟩
  have a5 : z 100 5 = c0.1 := by rw [hc0]
  have a6 : z 100 6 = c0.2.1 := by rw [hc0]
  have a7 : z 100 7 = c0.2.2.1 := by rw [hc0]
  have a8 : z 100 8 = c0.2.2.2 := by rw [hc0]
  rw [← hv, ← hc0] at ok0 ⊢
  rw [← hc0] at pb
  rw [← hv] at hL
  have k4 := ok0.2.2.2
  have e3 := e104 _ pb.1 pb.2
  rw [e_X12_reach, show xF = 999999 + 1 from rfl, l_X12_reach_0, show (999999 : Nat) = 999230 + 1 + 768 from rfl]
  have f1 := m_fill104 (d + 3) (z := z) 768 0 (by omega) (by omega) 999230
  rw [zfl_0] at f1
  simp only [zLit]
  rw [f1, show (999230 : Nat) = 999129 + 1 + 100 from rfl]
  have f2 := m_fill105 (d + 3) (z := zfl z 104 (-1) 768) (Q := fun _ z' => PostM v c0 z z') ?_ 100 0 (by omega) (by omega) 999129 (by omega)
  · rw [zfl_0] at f2
    exact f2
  · intro n hn
    rw [l_X12_reach_24]
    simp only [zLit, hI_us]
    rw [if_pos (by decide), ← hz1e]
    have ez : zfl (zfl z 104 (-1) 768) 105 (-1) 100 100 = z 100 := by rw [zfl_ne _ _ _ (by decide), zfl_ne _ _ _ (by decide)]
    simp only [hI_fs, ez, a5, a6, a7, a8, zI_mul, zI_add]
    rw [show 12 * c0.1 + 3 * c0.2.1 + c0.2.2.1 = plc c0 from rfl]
    refine xw_k (m_comes (d + 2) hz1 C0 (p := plc c0) (t := c0.2.2.2) pb k4 (by omega)) ?_
    intro r z2 hr2 hz2 ⟨B2, o1, o2, o3, o4, o5, o6, o7, o8, o9, o10⟩
    have lt : z1 104 (plc c0) < c0.2.2.2 := by omega
    have y8 : z2 100 8 = c0.2.2.2 := by rw [o10 8 rfl, x8, a8]
    simp only [hI_fs, y8]
    refine m_heights d hL ok0 (z0 := z) hv.symm c0.2.2.2.toNat c0.2.2.2 (by omega) k4.2 z2 B2 [] hz2 ⟨⟨o1, fun q q0 q1 => ?_, fun q q0 q1 => ?_⟩, fun q q0 q1 hq => ?_, ?_, ⟨List.nodup_nil, fun q hq => absurd hq (by simp)⟩, ?_, FZ_tr fz1 ⟨o9, ff_mono o10 rfl⟩⟩ n (by omega)
    · rw [o2]
      by_cases e : q = plc c0 ∧ z1 104 (plc c0) < c0.2.2.2
      · rw [if_pos e, e.1, unp_plc ok0.2.1 ok0.2.2.1]
        exact fun _ => ⟨k4.2, Rch_base⟩
      · rw [if_neg e, e104 q q0 q1]
        intro w
        omega
    · rw [o2]
      by_cases e : q = plc c0 ∧ z1 104 (plc c0) < c0.2.2.2
      · rw [if_pos e, e.1]
        exact fun _ _ => o4 e.2
      · rw [if_neg e, e104 q q0 q1]
        intro w
        omega
    · rw [o2] at hq
      by_cases e : q = plc c0 ∧ z1 104 (plc c0) < c0.2.2.2
      · rw [if_pos e] at hq
        omega
      · rw [if_neg e, e104 q q0 q1] at hq
        omega
    · rw [o2, if_pos ⟨rfl, lt⟩]
      exact Int.le_refl _
    · simp only [List.length_nil]
      omega
theorem m_heightAt_l (d : Nat) {z : zH} (hz : zRR z) {e : Int} (he : 0 ≤ e ∧ e < 8) (hc : 0 ≤ z 101 (153 + 5 * e) ∧ z 101 (153 + 5 * e) < 64) : ∀ (m : Nat) (k g : Int), 0 ≤ k → k + m = 12 → zR g → MxG (z 101) (z 104) e g k → ∀ n, m < n → xw (r_X12_heightAt (d + 2) n 4 [some (xR 28 100), some (xI (zI e)), some (xI (zI g)), some (xI (zI k))] [] (hI z)) (fun r z' => z' = z ∧ MxG (z 101) (z 104) e r 12) := by
  have h0r : zR 0 := zR_s (by omega)
  intro m
  induction m with
  | zero =>
    intro k g k0 k1 hg hM n hn
    obtain ⟨n, rfl⟩ := Nat.exists_eq_succ_of_ne_zero (show n ≠ 0 by omega)
    have e1 : k = 12 := by omega
    subst e1
    rw [l_X12_heightAt_4]
    simp only [zLit]
    rw [if_neg (by decide)]
    exact xw_ret hg hz ⟨rfl, hM⟩
  | succ m ih =>
    intro k g k0 k1 hg hM n hn
    obtain ⟨n, rfl⟩ := Nat.exists_eq_succ_of_ne_zero (show n ≠ 0 by omega)
    have kr : zR k := zR_s (by omega)
    have n3 : ¬ zI 3 = zI 0 := by decide
    have e3 : zI k - zI k / zI 3 * zI 3 = zI (k % 3) := zI_rem kr k0 (by omega) (zR_s (by omega))
    have mg := fun d => m_isGood d hz (e := e) (s := k % 3) he (zR_s (by omega))
    have me := fun d => m_end d (z := z) (e := e) (f := 1) (by omega) (by omega)
    rw [show 152 + 5 * e + 1 = 153 + 5 * e by omega] at me
    rw [l_X12_heightAt_4]
    simp only [zLit, if_neg n3, e3]
    rw [if_pos (by rw [zI_lt kr (zR_s (by omega))]; omega)]
    simp only [mg, xbd_n, zB_0]
    by_cases w : goodS (z 101) e (k % 3)
    · rw [if_neg (fun x => x w)]
      simp only [me, xbd_n, zI_mul, zI_add]
      obtain ⟨p, hp⟩ : ∃ p, p = 12 * z 101 (153 + 5 * e) + k := ⟨_, rfl⟩
      rw [← hp]
      have pr : zR p := zR_s (by omega)
      have bp := bnd (a := p) (n := 768) (by omega) (by omega) (by omega)
      have ep : hI z 104 (zI p).toNatClampNeg = zI (z 104 p) := by rw [zI_nat pr, zld (by omega)]
      simp only [lenX_s, if_neg bp, ep, zI_ilt hg (hz 104 p)]
      refine ih (k + 1) _ (by omega) (by omega) ?_ ?_ n (by omega)
      · split
        · exact hz _ _
        · exact hg
      · have y := MxG_y hM k0 w
        rw [← hp] at y
        exact y
    · rw [if_pos w]
      simp only [zI_add]
      exact ih (k + 1) g (by omega) (by omega) hg (MxG_n hM w) n (by omega)
theorem m_heightAt (d : Nat) {z : zH} (hz : zRR z) {e : Int} (he : 0 ≤ e ∧ e < 8) (hc : 0 ≤ z 101 (153 + 5 * e) ∧ z 101 (153 + 5 * e) < 64) : xw (cM (d + 3) 182 [xR 28 100, xI (zI e)] (hI z)) (fun r z' => z' = z ∧ MxG (z 101) (z 104) e r 12) := by
  rw [e_X12_heightAt, show xF = 999999 + 1 from rfl, l_X12_heightAt_0]
  simp only [zLit, zI_neg]
  exact m_heightAt_l d hz he hc 12 0 (-1) (by omega) (by omega) (zR_s (by omega)) (MxG_0 (by omega)) 999999 (by omega)
