/-! PURE, part 75: the model reads values, writes codes; once at fault it does nothing more -/
def FM (q : Int) (z z' : zH) : Prop := fr [100, 113] z z' ∧ ff [19, 20, 21, 22, 23, 24] z z' ∧ ∀ j, j < q → z' 113 j = z 113 j
theorem FM_rf (q : Int) (z : zH) : FM q z z := ⟨fr_rf _ _, ff_rf _ _, fun _ _ => rfl⟩
theorem FM_tr {q q1 : Int} {z z1 z2 : zH} (h : FM q z z1) (k : FM q1 z1 z2) (hq : q ≤ q1) : FM q z z2 := ⟨fr_tr h.1 k.1 rfl, ff_tr h.2.1 k.2.1 rfl, fun j hj => (k.2.2 j (by omega)).trans (h.2.2 j hj)⟩
theorem FM_MT {T : Int → Int} {n q : Int} {z z' : zH} (h : MT T n z) (k : FM q z z') : MT T n z' := MT_t h (k.2.1 4 rfl) (k.1 103 rfl)
def PreM (T : Int → Int) (n : Int) (m : Nat) (z : zH) (i : Nat) (q dp : Int) : Prop := zRR z ∧ MT T n z ∧ MV T n z (stN T n i) ∧ z 100 22 = 0 ∧ i ≤ m ∧ z 100 24 = q ∧ 0 ≤ q ∧ 2 * q ≤ stN T n i ∧ z 100 23 = dp
def PostN (T : Int → Int) (n q dp : Int) (r : PR) (z z' : zH) : Prop := (r.1 = true → MV T n z' (stN T n r.2.1) ∧ z' 100 22 = 0 ∧ z' 100 24 = q + r.2.2.2.length ∧ has (z' 113) q r.2.2.2) ∧ (r.1 ≠ true → z' 100 22 = 1 ∧ z' 100 19 = stN T n r.2.1) ∧ z' 100 23 = dp ∧ FM q z z'
theorem PreM_p {T : Int → Int} {n : Int} {m : Nat} {z z' : zH} {i : Nat} {q dp : Int} {r : PR} (h : PreM T n m z i q dp) (hp : PostN T n q dp r z z') (hb : PB (stN T n) m i r) (hr : r.1 = true) (hz : zRR z') : PreM T n m z' r.2.1 (q + r.2.2.2.length) dp := by
  obtain ⟨h1, h2, h3, h4, h5, h6, h7, h8, h9⟩ := h
  obtain ⟨p1, p2, p3, p4⟩ := hp
  have b := hb.2.2 hr
  obtain ⟨a1, a2, a3, a4⟩ := p1 hr
  exact ⟨hz, FM_MT h2 p4, a1, a2, hb.2.1, a3, by omega, by omega, p3⟩
theorem zup_id {z : zH} {o : Nat} {k v : Int} (h : z o k = v) : zup z o k v = z := by
  funext p q
  rw [zup_at]
  by_cases e : p = o ∧ q = k
  · rw [if_pos e, e.1, e.2]; exact h.symm
  · rw [if_neg e]
theorem m_needF (d : Nat) {z : zH} {x : Int} (h22 : z 100 22 = 1) : cM (d + 1) 214 [xR 28 100, xI (zI x)] (hI z) = some (zI 0, hI z) := by
  have n10 : ¬ zI 1 = zI 0 := by decide
  rw [e_X12_need]
  simp only [zLit, hI_fs, h22, if_neg n10, hI_us]
  rw [zup_id h22]
theorem m_need0 (d : Nat) {z : zH} (h22 : z 100 22 = 0) : cM (d + 1) 214 [xR 28 100, xI (zI 0)] (hI z) = some (zI 0, hI (zup z 100 22 1)) := by
  rw [e_X12_need]
  simp only [zLit, hI_fs, h22, if_true, hI_us]
theorem m_need1 (d : Nat) {T : Int → Int} {n : Int} {m : Nat} (hT : tpB T n) (hk : Tks T n m) {z : zH} {i : Nat} {q dp : Int} (hP : PreM T n m z i q dp) (hi : Kk T n i ≠ 0) : xw (cM (d + 4) 214 [xR 28 100, xI (zI 1)] (hI z)) (fun _ z' => PreM T n m z' (i + 1) q dp ∧ FM q z z' ∧ z' 113 = z 113) := by
  obtain ⟨h1, h2, h3, h4, h5, h6, h7, h8, h9⟩ := hP
  have O := Tks_O hk
  have im := (O.1 i).mpr hi
  have bi := O.2.1 i im
  have rb := rn_b (T := T) (n := n) (p := stN T n i) (hk.2.2.2 i im)
  have sb := stN_b (T := T) hk.1.1 i
  have h0r : zR 0 := zR_s (by omega)
  have n10 : ¬ zI 1 = zI 0 := by decide
  rw [e_X12_need]
  simp only [zLit, hI_fs, h4, if_true, if_neg n10, hI_us]
  rw [zup_id h4]
  refine xw_k (m_next d hT h1 h2 (t := rn T n (stN T n i)) h3.2.1 ⟨by omega, rb.2⟩) ?_
  intro r z1 _ hz1 ⟨a1, a2, a3⟩
  have F : FM q z z1 := ⟨fr_mono a2 rfl, ff_mono a3 rfl, fun j _ => by rw [a2 113 rfl]⟩
  exact xw_ret h0r hz1 ⟨⟨hz1, FM_MT h2 F, a1, by rw [a3 22 rfl]; exact h4, by omega, by rw [a3 24 rfl]; exact h6, h7, by omega, by rw [a3 23 rfl]; exact h9⟩, F, a2 113 rfl⟩
theorem m_codesF (d : Nat) {z : zH} {x : Int32} (h22 : z 100 22 = 1) : cM (d + 1) 215 [xR 28 100, xI x] (hI z) = some (zI 0, hI z) := by
  have n10 : ¬ zI 1 = zI 0 := by decide
  rw [e_X12_codes]
  simp only [zLit, hI_fs, h22, if_neg n10]
theorem m_codes (d : Nat) {z : zH} (hz : zRR z) {q x : Int} (h22 : z 100 22 = 0) (h24 : z 100 24 = q) (hq : 0 ≤ q ∧ q < 160) (hx : zR x) : xw (cM (d + 1) 215 [xR 28 100, xI (zI x)] (hI z)) (fun _ z' => z' 100 24 = q + 1 ∧ z' 113 q = x ∧ FM q z z' ∧ ff [24] z z') := by
  have h0r : zR 0 := zR_s (by omega)
  have qr : zR q := zR_s (by omega)
  have b := bnd (a := q) (n := 160) hq.1 (by omega) (by omega)
  have l113 : lenX 113 = 160 := by decide +kernel
  rw [e_X12_codes]
  simp only [zLit, hI_fs, h22, h24, if_true, l113, if_neg b]
  simp only [zI_nat qr, zst hq.1]
  have e24 : zup z 113 q x 100 24 = q := by rw [zup_at, if_neg (by omega)]; exact h24
  (try simp only [hI_fs, e24])
  simp only [zI_add, hI_us]
  refine xw_ret h0r (zRR_up (zRR_up hz _ _ hx) _ _ (zR_s (by omega))) ⟨?_, ?_, ⟨fr_up (fr_up (fr_rf _ _) _ _ rfl) _ _ rfl, ff_up (ff_ne (ff_rf _ _) _ _ (by decide)) _ rfl, fun j hj => ?_⟩, ff_up (ff_ne (ff_rf _ _) _ _ (by decide)) _ rfl⟩
  · rw [zup_at, if_pos ⟨rfl, rfl⟩]
  · rw [zup_at, if_neg (by omega), zup_at, if_pos ⟨rfl, rfl⟩]
  · rw [zup_at, if_neg (by omega), zup_at, if_neg (by omega)]
theorem kd2_d {T : Int → Int} {n p : Int} (hn : n ≤ 240) (h : kd T n p = 2) : ∀ j, p ≤ j → j < rn T n p → 48 ≤ T j ∧ T j ≤ 57 := by
  have k := kd_2 hn h
  intro j j0 j1
  by_cases e : j = p
  · subst e; exact k.2.1
  · have er : rn T n p = rl T n 48 57 240 (p + 1) := by
      unfold rn
      rw [if_neg (by omega), if_neg (by have := k.2.1; omega), if_pos k.2.1]
    exact rl_in T n 48 57 240 (p + 1) j (by omega) (by rw [← er]; exact j1)
theorem m_value_l (d : Nat) {T : Int → Int} {n : Int} (hT : tpB T n) {z : zH} (hz : zRR z) (hM : MT T n z) {e x : Int} {Q : Int → zH → Prop} (he : z 100 20 = e) (hen : e ≤ n) (N0 : Nat) (hx : zR x) : ∀ (g : Nat) (k a : Int), 0 ≤ k → k + g = e → (∀ j, k ≤ j → j < e → 48 ≤ T j ∧ T j ≤ 57) → (xw (xbd (cM d 214 [xR 28 100, xI (zI 1)] (hI z)) fun r h6 => some (zI (dgF T g k a), h6)) Q) → ∀ N, N0 + g < N → xw (r_X12_value d N 51 [some (xR 28 100), some (xI (zI x)), some (xI (zI a)), some (xI (zI 1)), some (xI (zI k))] [] (hI z)) Q := by
  have n10 : ¬ zI 1 = zI 0 := by decide
  have hn := hT.1
  intro g
  induction g with
  | zero =>
    intro k a k0 ke hd cont N hN
    obtain ⟨N, rfl⟩ := Nat.exists_eq_succ_of_ne_zero (show N ≠ 0 by omega)
    rw [l_X12_value_51]
    simp only [zLit, if_neg n10, hI_fs, he]
    rw [if_neg (by rw [zI_lt (zR_s (by omega)) (zR_s (by omega))]; omega)]
    exact cont
  | succ g ih =>
    intro k a k0 ke hd cont N hN
    obtain ⟨N, rfl⟩ := Nat.exists_eq_succ_of_ne_zero (show N ≠ 0 by omega)
    have kr : zR k := zR_s (by omega)
    have b := bnd (a := k) (n := 240) k0 (by omega) (by omega)
    have dg := hd k (by omega) (by omega)
    have e3 := hM.2 k k0 (by omega)
    have ek : hI z 103 (zI k).toNatClampNeg = zI (T k) := by rw [zI_nat kr, zld k0, e3, Int.emod_eq_of_lt (by omega) (by omega)]
    rw [l_X12_value_51]
    simp only [zLit, if_neg n10, hI_fs, he, lenX_s, if_neg b, ek, zI_mul, zI_add, zI_sub]
    rw [if_pos (by rw [zI_lt kr (zR_s (by omega))]; omega), show 10 * a + T k - 48 = a * 10 + T k - 48 by omega]
    exact ih (k + 1) _ (by omega) (by omega) (fun j j0 j1 => hd j (by omega) j1) cont N (by omega)
theorem m_valP (d : Nat) {T : Int → Int} {n : Int} {m : Nat} (hT : tpB T n) (hk : Tks T n m) {z : zH} {i : Nat} {q dp : Int} (hP : PreM T n m z i q dp) : xw (cM (d + 7) 218 [xR 28 100] (hI z)) (fun rv z' => (vOkB (Kk T n) (Ww T n) i = true → rv = vVl (Kk T n) (Ww T n) i ∧ PreM T n m z' (i + 1) q dp ∧ z' 113 = z 113) ∧ (vOkB (Kk T n) (Ww T n) i ≠ true → z' 100 22 = 1 ∧ z' 100 19 = stN T n i) ∧ z' 100 23 = dp ∧ FM q z z') := by
  have hP0 := hP
  obtain ⟨h1, h2, h3, h4, h5, h6, h7, h8, h9⟩ := hP
  have O := Tks_O hk
  have n10 : ¬ zI 1 = zI 0 := by decide
  have hn := hT.1
  have h0r : zR 0 := zR_s (by omega)
  have sb := stN_b (T := T) hk.1.1 i
  have nm := fun d => m_nameVal d h1 hT h2 (p := stN T n i) sb h3 h4
  obtain ⟨v1, v2, v3⟩ := h3
  have vo := vOkB_i (Kk T n) (Ww T n) i
  have sob : 0 ≤ so T n (stN T n i) ∧ so T n (stN T n i) ≤ 3 := by unfold so; split; omega; split; omega; split <;> omega
  have rb : stN T n i ≤ rn T n (stN T n i) ∧ rn T n (stN T n i) ≤ n := by
    by_cases y : stN T n i < n
    · have := rn_b (T := T) y; omega
    · unfold rn; rw [if_pos (by omega)]; omega
  have wtb : kd T n (stN T n i) = 1 → 0 ≤ wt T n (stN T n i) ∧ wt T n (stN T n i) ≤ 15 := fun k => by rw [(kd_1 k).2.2]; exact wdI_b _ _ _
  have nb : -1 ≤ nmO T n (stN T n i) 8 7 ∧ nmO T n (stN T n i) 8 7 ≤ 15 := by
    unfold nmO
    split
    · rename_i y; have := wtb y.1; omega
    · omega
  have s2 : kd T n (stN T n i) = 2 ↔ (so T n (stN T n i) = 2 ∧ rn T n (stN T n i) - stN T n i ≤ 3) := by
    unfold kd so
    split
    · simp
    · split
      · simp
      · split
        · split
          · rename_i y; simp [y]
          · rename_i y; simp [y]
        · simp
  -- not a number
  have no : kd T n (stN T n i) ≠ 2 → ∀ N, 0 < N → xw (r_X12_value (d + 6) N 51 [some (xR 28 100), some (xI (zI (nmO T n (stN T n i) 8 7))), some (xI (zI 0)), some (xI (zI 0)), some (xI (zI (stN T n i)))] [] (hI z)) (fun rv z' => (vOkB (Kk T n) (Ww T n) i = true → rv = vVl (Kk T n) (Ww T n) i ∧ PreM T n m z' (i + 1) q dp ∧ z' 113 = z 113) ∧ (vOkB (Kk T n) (Ww T n) i ≠ true → z' 100 22 = 1 ∧ z' 100 19 = stN T n i) ∧ z' 100 23 = dp ∧ FM q z z') := by
    intro k2 N hN
    obtain ⟨N, rfl⟩ := Nat.exists_eq_succ_of_ne_zero (show N ≠ 0 by omega)
    rw [l_X12_value_51]
    simp only [zLit, if_true, zI_add]
    by_cases w : kd T n (stN T n i) = 1 ∧ 8 ≤ wt T n (stN T n i) ∧ wt T n (stN T n i) < 8 + 7
    · have en : nmO T n (stN T n i) 8 7 = wt T n (stN T n i) - 8 := by unfold nmO; rw [if_pos w]
      rw [en, if_neg (by rw [zI_lt (zR_s (by omega)) h0r]; omega)]
      have ok : vOkB (Kk T n) (Ww T n) i = true := vo.mpr (Or.inr ⟨w.1, w.2.1, by have := w.2.2; show wt T n (stN T n i) < 15; omega⟩)
      refine xw_k (m_need1 (d + 2) hT hk hP0 (by show kd T n (stN T n i) ≠ 0; omega)) ?_
      intro r z1 _ hz1 ⟨a1, a2, a3⟩
      refine xw_ret (zR_s (by omega)) hz1 ⟨fun _ => ⟨?_, a1, a3⟩, fun y => absurd ok y, a1.2.2.2.2.2.2.2.2, a2⟩
      unfold vVl
      rw [if_neg (show ¬ kd T n (stN T n i) = 2 from k2)]
      show 1000 + (wt T n (stN T n i) - 8) = 1000 + wt T n (stN T n i) - 8
      omega
    · have en : nmO T n (stN T n i) 8 7 = -1 := by unfold nmO; rw [if_neg w]
      have nok : ¬ vOkB (Kk T n) (Ww T n) i = true := fun y => by
        rcases vo.mp y with u | u
        · exact k2 u
        · exact w ⟨u.1, u.2.1, by have := u.2.2; show wt T n (stN T n i) < 15; exact this⟩
      have m0 := fun d => m_need0 d h4
      rw [en, if_pos (by decide)]
      simp only [m0, xbd_n]
      refine xw_ret (zR_s (by omega)) (zRR_up h1 _ _ (zR_s (by omega))) ⟨fun y => absurd y nok, fun _ => ⟨by rw [zup_at, if_pos ⟨rfl, rfl⟩], by rw [zup_at, if_neg (by omega)]; exact v1⟩, by rw [zup_at, if_neg (by omega)]; exact h9, ⟨fr_up (fr_rf _ _) _ _ rfl, ff_up (ff_rf _ _) _ rfl, fun j _ => by rw [zup_ne _ _ _ (by decide)]⟩⟩
  rw [e_X12_value, show xF = 999999 + 1 from rfl, l_X12_value_0]
  simp only [nm, xbd_n, zLit, hI_fs, h4, v1, v2, v3, if_true, zI_sub]
  by_cases q1 : so T n (stN T n i) = 2
  · rw [if_pos (by rw [q1])]
    by_cases q2 : rn T n (stN T n i) - stN T n i ≤ 3
    · have k2 := s2.mpr ⟨q1, q2⟩
      have K2 := kd_2 hn.2 k2
      have ok : vOkB (Kk T n) (Ww T n) i = true := vo.mpr (Or.inl k2)
      rw [if_neg (by rw [zI_lt (zR_s (by omega)) (zR_s (by omega))]; omega)]
      refine m_value_l (d + 6) hT h1 h2 v2 rb.2 0 (zR_s (by omega)) (rn T n (stN T n i) - stN T n i).toNat (stN T n i) 0 sb.1 (by omega) (kd2_d hn.2 k2) ?_ 999999 (by omega)
      refine xw_k (m_need1 (d + 2) hT hk hP0 (by show kd T n (stN T n i) ≠ 0; omega)) ?_
      intro r z1 _ hz1 ⟨a1, a2, a3⟩
      rw [← K2.2.2.2.1]
      refine xw_ret (zR_s (by omega)) hz1 ⟨fun _ => ⟨?_, a1, a3⟩, fun y => absurd ok y, a1.2.2.2.2.2.2.2.2, a2⟩
      unfold vVl
      rw [if_pos (show kd T n (stN T n i) = 2 from k2)]
    · rw [if_pos (by rw [zI_lt (zR_s (by omega)) (zR_s (by omega))]; omega)]
      exact no (fun y => q2 (s2.mp y).2) 999999 (by omega)
  · rw [if_neg (by rw [zI_eq (zR_s (by omega)) (zR_s (by omega))]; exact q1)]
    exact no (fun y => q1 (s2.mp y).1) 999999 (by omega)
theorem m_valueF (d : Nat) {z : zH} (h22 : z 100 22 = 1) : cM (d + 3) 218 [xR 28 100] (hI z) = some (zI 999, hI z) := by
  have n10 : ¬ zI 1 = zI 0 := by decide
  have nf := fun d => m_nameF d (z := z) h22 (a := 111) (Or.inr rfl)
  have mf := fun d x => m_needF d (z := z) (x := x) h22
  rw [e_X12_value, show xF = 999999 + 1 from rfl, l_X12_value_0]
  simp only [nf, xbd_n, zLit, hI_fs, h22, if_neg n10]
  obtain ⟨k, hk⟩ : ∃ k, (999999 : Nat) = k + 1 := ⟨999998, rfl⟩
  rw [hk, l_X12_value_51]
  simp only [zLit, if_true]
  rw [if_pos (by decide)]
  simp only [mf, xbd_n, zI_add]
  rfl
