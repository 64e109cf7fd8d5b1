/-! PURE, part 54: search, whole; the greatest -/
theorem c_search (d : Nat) {v : Int → Int} (hv : ∀ k, zR (v k)) (hLd : LandI v) {z : zH} (hz : zRR z) (hR : LandR z v) (hE : PEnds 7 z v) {o : Nat} (ho : o ≠ 51 ∧ o ≠ 52) (ok0 : okC v (crC z o)) {g : Int} (hg : zR g) : xw (cM (d + 5) 46 [xR 22 50, xR 26 1, xR 18 o, xI (zI g)] (hI z)) (fun _ z' => PostS v (crC z o) g z z') := by
  have har := area hLd.1 hLd.2.1
  have f1 := fun d => c_fill d (z := z) (o := 51) (v := -3) (L := 768) (by simp only [lenX_s]) (by omega)
  have f2 := fun d => c_fill d (z := zfl z 51 (-3) (768 : Nat)) (o := 52) (v := -1) (L := 100) (by simp only [lenX_s]) (by omega)
  obtain ⟨z1, hz1e⟩ : ∃ z1, z1 = zfl (zfl z 51 (-3) (768 : Nat)) 52 (-1) (100 : Nat) := ⟨_, rfl⟩
  have hz1 : zRR z1 := by rw [hz1e]; exact zRR_fl (zRR_fl hz _ _ (zR_s (by omega))) _ _ (zR_s (by omega))
  have fz1 : fr [51, 52, 53, 54] z z1 := by rw [hz1e]; exact fr_fl (fr_fl (fr_rf _ _) _ _ rfl) _ _ rfl
  have e51 : ∀ q, 0 ≤ q → q < 768 → z1 51 q = -3 := by
    intro q q0 q1
    rw [hz1e, zfl_ne _ _ _ (by decide), zfl_at _ ⟨q0, by omega⟩]
  have e52 : ∀ q, 0 ≤ q → q ≤ 99 → z1 52 q = -1 := by
    intro q q0 q1
    rw [hz1e, zfl_at _ ⟨q0, by omega⟩]
  have eo : z1 o = z o := by rw [hz1e, zfl_ne _ _ _ ho.2, zfl_ne _ _ _ ho.1]
  have C0 : Chn z1 (fun _ => []) := fun H h0 h1 => ⟨e52 H h0 h1, List.nodup_nil, fun p hp => absurd hp (by simp)⟩
  have pb := plc_b hLd ok0
  obtain ⟨k1, k2, k3, k4⟩ := ok0
  simp only [crC] at k1 k2 k3 k4
  have pe : plc (crC z o) = 12 * z o 0 + 3 * z o 1 + z o 2 := rfl
  have e3 := e51 _ pb.1 pb.2
  rw [e_X6_search, show xF = 999999 + 1 from rfl, l_X6_search_0]
  simp only [zLit, zI_neg]
  simp only [f1, xbd_n]
  simp only [f2, xbd_n]
  rw [← hz1e]
  simp only [hI_fs, eo]
  refine xw_k (c_offer (d + 1) hz1 C0 (p := plc (crC z o)) (t := z o 3) ⟨by omega, by omega⟩ k2 k3 pe k4 (fun w0 w1 => by omega)) ?_
  intro r z2 hr hz2 ⟨L', o1, o2, o3, o4, o5, o6, o7⟩
  have lt : z1 51 (plc (crC z o)) < z o 3 := by omega
  have uu : unp (plc (crC z o)) (z o 3) = crC z o := unp_plc (c := crC z o) k2 k3
  refine c_search_out d hv hLd ⟨k1, k2, k3, k4⟩ hR hE hg 100 99 (by omega) (by omega) z2 L' hz2 ⟨⟨o1, fun q q0 q1 => ?_, fun q q0 q1 => ?_⟩, fun q q0 q1 hq => ?_, ?_, fr_tr fz1 o7 rfl⟩ 999999 (by omega)
  · rw [o2]
    by_cases e : q = plc (crC z o) ∧ z1 51 (plc (crC z o)) < z o 3
    · rw [if_pos e, e.1, uu]
      exact fun _ => ⟨k4.2, Rch_base⟩
    · rw [if_neg e, e51 q q0 q1]
      intro w
      omega
  · rw [o2]
    by_cases e : q = plc (crC z o) ∧ z1 51 (plc (crC z o)) < z o 3
    · rw [if_pos e, e.1]
      exact fun _ _ => o4 e.2
    · rw [if_neg e, e51 q q0 q1]
      intro w
      omega
  · rw [o2] at hq
    by_cases e : q = plc (crC z o) ∧ z1 51 (plc (crC z o)) < z o 3
    · rw [if_pos e] at hq
      omega
    · rw [if_neg e, e51 q q0 q1] at hq
      omega
  · show z o 3 ≤ _
    rw [o2, if_pos ⟨rfl, lt⟩]
    exact Int.le_refl _
/-- the greatest of so many places at an END's cell that are good for it -/
def MxG (v b : Int → Int) (e g n : Int) : Prop := (∀ k, 0 ≤ k → k < n → goodS v e (k % 3) → b (12 * v (153 + 5 * e) + k) ≤ g) ∧ (0 ≤ g → ∃ k, (0 ≤ k ∧ k < n) ∧ goodS v e (k % 3) ∧ b (12 * v (153 + 5 * e) + k) = g)
theorem MxG_0 {v b : Int → Int} {e g : Int} (h : g < 0) : MxG v b e g 0 := ⟨fun k k0 k1 => by omega, fun x => by omega⟩
theorem MxG_n {v b : Int → Int} {e g n : Int} (h : MxG v b e g n) (hn : ¬ goodS v e (n % 3)) : MxG v b e g (n + 1) := by
  refine ⟨fun k k0 k1 gd => ?_, fun g0 => ?_⟩
  · by_cases q : k = n
    · rw [q] at gd; exact absurd gd hn
    · exact h.1 k k0 (by omega) gd
  · obtain ⟨k, k0, k1⟩ := h.2 g0
    exact ⟨k, ⟨k0.1, by omega⟩, k1⟩
theorem MxG_y {v b : Int → Int} {e g n : Int} (h : MxG v b e g n) (n0 : 0 ≤ n) (hn : goodS v e (n % 3)) : MxG v b e (if g < b (12 * v (153 + 5 * e) + n) then b (12 * v (153 + 5 * e) + n) else g) (n + 1) := by
  refine ⟨fun k k0 k1 gd => ?_, fun g0 => ?_⟩
  · by_cases q : k = n
    · subst q; split <;> omega
    · have := h.1 k k0 (by omega) gd
      split <;> omega
  · by_cases q : g < b (12 * v (153 + 5 * e) + n)
    · rw [if_pos q] at g0 ⊢
      exact ⟨n, ⟨n0, by omega⟩, hn, rfl⟩
    · rw [if_neg q] at g0 ⊢
      obtain ⟨k, k0, k1⟩ := h.2 g0
      exact ⟨k, ⟨k0.1, by omega⟩, k1⟩
theorem GR_mx {v : Int → Int} (hL : LandI v) {c0 : crft} (h0 : okC v c0) {b : Int → Int} {e g H : Int} (hc : 0 ≤ v (153 + 5 * e) ∧ v (153 + 5 * e) < 64) (hs : ∀ q, 0 ≤ q → q < 768 → 0 ≤ b q → b q ≤ 99 ∧ Rch v c0 (unp q (b q))) (hb : c0.2.2.2 ≤ b (plc c0)) (hcl : ∀ q, 0 ≤ q → q < 768 → H < b q → clsd v b q) (hx : H = -1 ∨ ∃ p, 0 ≤ p ∧ p < 768 ∧ b p = H ∧ goodE v e (p / 12) (p % 3)) (hm : MxG v b e g 12) : GR v c0 (fun c => goodE v e c.1 c.2.2.1) g := by
  refine ⟨fun g0 => ?_, fun c hr ht => ?_⟩
  · obtain ⟨k, k0, gd, eb⟩ := hm.2 g0
    have s := hs (12 * v (153 + 5 * e) + k) (by omega) (by omega) (by omega)
    rw [eb] at s
    refine ⟨_, s.2, ⟨?_, ?_⟩, rfl⟩
    · show v (153 + 5 * e) = (12 * v (153 + 5 * e) + k) / 12
      omega
    · show goodS v e ((12 * v (153 + 5 * e) + k) % 3)
      rw [show (12 * v (153 + 5 * e) + k) % 3 = k % 3 by omega]
      exact gd
  · have ok := Rch_ok hL h0 hr
    by_cases q : H < c.2.2.2
    · have m := Rch_max hL h0 hb hcl hr q
      have w := hm.1 (3 * c.2.1 + c.2.2.1) (by have := ok.2; omega) (by have := ok.2; omega) (by
        rw [show (3 * c.2.1 + c.2.2.1) % 3 = c.2.2.1 by have := ok.2.2.1; omega]
        exact ht.2)
      rw [ht.1] at w
      rw [show 12 * c.1 + (3 * c.2.1 + c.2.2.1) = plc c by unfold plc; omega] at w
      exact Int.le_trans m w
    · rcases hx with w | ⟨p, p0, p1, p2, p3⟩
      · have := ok.2.2.2; omega
      · have w := hm.1 (p % 12) (by omega) (by omega) (by
          rw [show p % 12 % 3 = p % 3 by omega]
          exact p3.2)
        rw [p3.1, show 12 * (p / 12) + p % 12 = p by omega] at w
        omega
theorem c_gr_l (d : Nat) {v : Int → Int} (hv : ∀ k, zR (v k)) {z : zH} (hz : zRR z) (hE : PEnds 7 z v) {e : Int} (he : 0 ≤ e ∧ e < v 7) (hc : 0 ≤ v (153 + 5 * e) ∧ v (153 + 5 * e) < 64) : ∀ (m : Nat) (hd s g : Int), 0 ≤ hd → hd ≤ 3 → 0 ≤ s → s ≤ 3 → 4 * (3 - hd) + (3 - s) = m → zR g → MxG v (z 51) e g (3 * hd + s) → ∀ n, 2 * m + 2 < n → xw (r_X6_greatest (d + 4) n 26 [some (xR 22 50), some (xR 26 1), some (xI (zI e)), some (xI (zI (v (153 + 5 * e)))), some (xI (zI g)), some (xI (zI hd)), some (xI (zI s)), none] [] (hI z)) (fun r z' => z' = z ∧ MxG v (z 51) e r 12) := by
  have h0r : zR 0 := zR_s (by omega)
  have b7 : 0 ≤ v 7 ∧ v 7 ≤ 8 := hE.1.2.2.2.1
  intro m
  induction m with
  | zero =>
    intro hd s g d0 d1 s0 s1 hm hg hM n hn
    obtain ⟨n, rfl⟩ := Nat.exists_eq_succ_of_ne_zero (show n ≠ 0 by omega)
    obtain ⟨n, rfl⟩ := Nat.exists_eq_succ_of_ne_zero (show n ≠ 0 by omega)
    have e1 : hd = 3 := by omega
    have e2 : s = 3 := by omega
    subst e1
    subst e2
    rw [l_X6_greatest_26]
    simp only [zLit, zI_add]
    rw [if_neg (by rw [zI_lt (zR_s (by omega)) (zR_s (by omega))]; omega), l_X6_greatest_17]
    simp only [zLit]
    rw [if_neg (by rw [zI_lt (zR_s (by omega)) (zR_s (by omega))]; omega)]
    exact xw_ret hg hz ⟨rfl, hM⟩
  | succ m ih =>
    intro hd s g d0 d1 s0 s1 hm hg hM n hn
    obtain ⟨n, rfl⟩ := Nat.exists_eq_succ_of_ne_zero (show n ≠ 0 by omega)
    rw [l_X6_greatest_26]
    simp only [zLit, zI_add]
    by_cases q : s < 3
    · rw [if_pos (by rw [zI_lt (zR_s (by omega)) (zR_s (by omega))]; exact q)]
      have cg := fun d => c_isGood d hz hv hE (e := e) (c := v (153 + 5 * e)) (s := s) (zR_s (by omega)) (hv _) (zR_s (by omega))
      obtain ⟨p, hp⟩ : ∃ p, p = 12 * v (153 + 5 * e) + (3 * hd + s) := ⟨_, rfl⟩
      have pr : zR p := zR_s (by omega)
      have bp := bnd (a := p) (n := 768) (by omega) (by omega) (by omega)
      have ep : hI z 51 (zI p).toNatClampNeg = zI (z 51 p) := by rw [zI_nat pr, zld (by omega)]
      rw [e_X6_placeOf]
      simp only [zLit, zI_mul, zI_add, xbd_n]
      rw [show v (153 + 5 * e) * 12 + hd * 3 + s = p by omega]
      rw [y_isPlace _ (show 0 ≤ p ∧ p < 768 by omega), xbd_m, if_neg nI10]
      simp only [cg, xbd_n, zB_0]
      have ms : (3 * hd + s) % 3 = s := by omega
      by_cases w : goodS v e s
      · rw [if_neg (fun x => x ⟨he, rfl, w⟩)]
        simp only [lenX_s, if_neg bp, ep, zI_ilt hg (hz 51 p)]
        refine ih hd (s + 1) _ d0 d1 (by omega) (by omega) (by omega) ?_ ?_ n (by omega)
        · split
          · exact hz _ _
          · exact hg
        · have y := MxG_y hM (by omega) (by rw [ms]; exact w)
          rw [← hp, show 3 * hd + s + 1 = 3 * hd + (s + 1) by omega] at y
          exact y
      · rw [if_pos (fun x => w x.2.2)]
        have y := MxG_n hM (by rw [ms]; exact w)
        rw [show 3 * hd + s + 1 = 3 * hd + (s + 1) by omega] at y
        exact ih hd (s + 1) g d0 d1 (by omega) (by omega) (by omega) hg y n (by omega)
    · rw [if_neg (by rw [zI_lt (zR_s (by omega)) (zR_s (by omega))]; exact q)]
      obtain ⟨n, rfl⟩ := Nat.exists_eq_succ_of_ne_zero (show n ≠ 0 by omega)
      rw [l_X6_greatest_17]
      simp only [zLit]
      rw [if_pos (by rw [zI_lt (zR_s (by omega)) (zR_s (by omega))]; omega)]
      have e2 : s = 3 := by omega
      subst e2
      rw [show 3 * hd + 3 = 3 * (hd + 1) + 0 by omega] at hM
      exact ih (hd + 1) 0 g (by omega) (by omega) (by omega) (by omega) (by omega) hg hM n (by omega)
theorem c_greatest (d : Nat) {v : Int → Int} (hv : ∀ k, zR (v k)) {z : zH} (hz : zRR z) (hE : PEnds 7 z v) {e : Int} (he : 0 ≤ e ∧ e < v 7) (hc : 0 ≤ v (153 + 5 * e) ∧ v (153 + 5 * e) < 64) : xw (cM (d + 5) 54 [xR 22 50, xR 26 1, xI (zI e)] (hI z)) (fun r z' => z' = z ∧ MxG v (z 51) e r 12) := by
  have cn := fun d => c_endN d hz hE (e := e) (f := 1) he (by omega)
  rw [show 152 + 5 * e + 1 = 153 + 5 * e by omega] at cn
  rw [e_X6_greatest, show xF = 999999 + 1 from rfl, l_X6_greatest_0]
  simp only [zLit, zI_neg, Nat.reduceAdd]
  simp only [cn, xbd_n]
  obtain ⟨n, hn⟩ : ∃ n, (999999 : Nat) = n + 1 := ⟨999998, rfl⟩
  rw [hn, l_X6_greatest_17]
  simp only [zLit]
  rw [if_pos (by decide)]
  exact c_gr_l d hv hz hE he hc 15 0 0 (-3) (by omega) (by omega) (by omega) (by omega) (by omega) (zR_s (by omega)) (MxG_0 (by omega)) n (by omega)
