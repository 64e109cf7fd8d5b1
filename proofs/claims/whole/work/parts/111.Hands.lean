/-! PURE, part 41: HANDS: what is chosen -/
def spFirst (v T : Int → Int) (one : Int) : Nat → Int → Int
  | 0, _ => 1
  | m + 1, l => if v (296 + 3 * l) / 2 = one ∧ T l = 1 then 2 * (v (296 + 3 * l) % 2) else spFirst v T one m (l + 1)
theorem spFirst_b {v T : Int → Int} {one : Int} : ∀ (m : Nat) (l : Int), 0 ≤ spFirst v T one m l ∧ spFirst v T one m l ≤ 2 := by
  intro m
  induction m with
  | zero => intro l; unfold spFirst; omega
  | succ m ih =>
    intro l
    unfold spFirst
    split
    · omega
    · exact ih (l + 1)
abbrev LB := Int → (Int → Int) → Int
def HB (o : Nat) (z : zH) (v : Int → Int) (B : LB) : Prop := z o 3 = v 10 ∧ (0 ≤ v 10 ∧ v 10 ≤ 9) ∧ ∀ i, 0 ≤ i → i < v 10 → z (o + 1) i = v (296 + 3 * i) ∧ (0 ≤ v (296 + 3 * i) ∧ v (296 + 3 * i) ≤ 3) ∧ Den (z (o + 3)) (fun k => v (323 + k)) (z (o + 2) i) (z (o + 2) (i + 1)) (v (297 + 3 * i)) (v (298 + 3 * i)) (B i) 16
theorem PHands_B {o : Nat} {z : zH} {v : Int → Int} (h : PHands o z v) : ∃ B : LB, HB o z v B := by
  obtain ⟨h1, h2, h3⟩ := h
  have w : ∀ i : Int, ∃ B : (Int → Int) → Int, 0 ≤ i → i < v 10 → z (o + 1) i = v (296 + 3 * i) ∧ (0 ≤ v (296 + 3 * i) ∧ v (296 + 3 * i) ≤ 3) ∧ Den (z (o + 3)) (fun k => v (323 + k)) (z (o + 2) i) (z (o + 2) (i + 1)) (v (297 + 3 * i)) (v (298 + 3 * i)) B 16 := by
    intro i
    by_cases q : 0 ≤ i ∧ i < v 10
    · obtain ⟨a, b, B, c⟩ := h3 i q.1 q.2
      exact ⟨B, fun _ _ => ⟨a, b, c⟩⟩
    · exact ⟨fun _ => 0, fun a b => absurd ⟨a, b⟩ q⟩
  exact ⟨fun i => Classical.choose (w i), h1, h2, fun i a b => Classical.choose_spec (w i) a b⟩
abbrev lineE (v : Int → Int) (c : crft) (t : Int) : Int → Int := vEnv c t (v (24 + c.1)) (v (88 + c.1))
def spHand (v : Int → Int) (B : LB) (c : crft) (t : Int) : Int := 3 * spFirst v (fun l => B l (lineE v c t)) 0 (v 10).toNat 0 + spFirst v (fun l => B l (lineE v c t)) 1 (v 10).toNat 0
theorem spHand_b {v : Int → Int} {B : LB} {c : crft} {t : Int} : 0 ≤ spHand v B c t ∧ spHand v B c t ≤ 8 := by
  have h1 := spFirst_b (v := v) (T := fun l => B l (lineE v c t)) (one := 0) (v 10).toNat 0
  have h2 := spFirst_b (v := v) (T := fun l => B l (lineE v c t)) (one := 1) (v 10).toNat 0
  unfold spHand
  omega
theorem c_chosen_l (d : Nat) {z : zH} (hz : zRR z) {v : Int → Int} (hv : ∀ k, zR (v k)) (hR : LandR z v) (hL : LandI v) {B : LB} (hB : HB 13 z v B) {o : Nat} (hC : okC v (crC z o)) (ht : 0 ≤ z o 4 ∧ z o 4 ≤ 1000) {one : Int} (h1 : one = 0 ∨ one = 1) : ∀ (m : Nat) (k : Int), 0 ≤ k → k + m = v 10 → ∀ n, m < n → r_X4_chosen (d + 3) n 3 [some (xR 20 13), some (xR 21 2), some (xR 18 o), some (xI (zI (2 * one))), some (xI (zI k)), none] [] (hI z) = some (zI (spFirst v (fun l => B l (lineE v (crC z o) (z o 4))) one m k), hI z) := by
  have hH : PHands 13 z v := ⟨hB.1, hB.2.1, fun i a b => ⟨(hB.2.2 i a b).1, (hB.2.2 i a b).2.1, B i, (hB.2.2 i a b).2.2⟩⟩
  have h10 := hB.2.1
  have e3 : hI z 13 3 = zI (v 10) := by show zI (z 13 3) = _; rw [hB.1]
  have h0r : zR 0 := zR_s (by omega)
  have vr : zR (v 10) := hv 10
  intro m
  induction m with
  | zero =>
    intro k k0 k1 n hn
    obtain ⟨n, rfl⟩ := Nat.exists_eq_succ_of_ne_zero (show n ≠ 0 by omega)
    rw [l_X4_chosen_3, e3]
    rw [if_neg (by rw [zI_lt (zR_s (by omega)) vr]; omega)]
    rfl
  | succ m ih =>
    intro k k0 k1 n hn
    obtain ⟨n, rfl⟩ := Nat.exists_eq_succ_of_ne_zero (show n ≠ 0 by omega)
    have kr : zR k := zR_s (by omega)
    have bk : ¬ (zI k < zI 0 ∨ 9 ≤ (zI k).toNatClampNeg) := by rw [zI_lt kr h0r, zI_nat kr]; omega
    obtain ⟨d1, d2, dd⟩ := hB.2.2 k k0 (by omega)
    have ek : hI z 14 (zI k).toNatClampNeg = zI (v (296 + 3 * k)) := by rw [zI_nat kr, zld k0]; exact congrArg zI d1
    have dr : zR (v (296 + 3 * k)) := hv _
    have t1 : zR (2 * one) := zR_s (by omega)
    have t2 : zR (2 * one + 1) := zR_s (by omega)
    have c1 := fun d => c_holds d hz hv hR hL hH hC ht (l := k) ⟨k0, by omega⟩ dd
    have ihk := ih (k + 1) (by omega) (by omega) n (by omega)
    rw [l_X4_chosen_3, e3]
    rw [if_pos (by rw [zI_lt kr vr]; omega)]
    simp only [zLit, Nat.reduceAdd, lenX_s, zI_add]
    rw [if_pos (by rw [zI_lt kr (zR_s (by omega))]; omega)]
    simp only [if_neg bk, ek]
    unfold spFirst
    generalize v (296 + 3 * k) = D at *
    by_cases q : D / 2 = one
    · by_cases w : D = 2 * one
      · rw [if_pos (by rw [w])]
        simp only [c1, xbd_n, zB_0, if_neg bk, ek]
        by_cases s : B k (lineE v (crC z o) (z o 4)) = 1
        · rw [if_neg (fun x => x s), if_pos (by rw [w]), if_pos ⟨q, s⟩]
          rw [show 2 * (D % 2) = 0 by omega]
        · rw [if_pos s, if_neg (fun x => s x.2)]
          exact ihk
      · rw [if_neg (by rw [zI_eq dr t1]; exact w), if_pos (by rw [show D = 2 * one + 1 by omega])]
        simp only [c1, xbd_n, zB_0, if_neg bk, ek]
        by_cases s : B k (lineE v (crC z o) (z o 4)) = 1
        · rw [if_neg (fun x => x s), if_neg (by rw [zI_eq dr t1]; exact w), if_pos ⟨q, s⟩]
          rw [show 2 * (D % 2) = 2 by omega]
        · rw [if_pos s, if_neg (fun x => s x.2)]
          exact ihk
    · rw [if_neg (by rw [zI_eq dr t1]; omega), if_neg (by rw [zI_eq dr t2]; omega), if_neg (fun x => q x.1)]
      exact ihk
theorem c_chosen (d : Nat) {z : zH} (hz : zRR z) {v : Int → Int} (hv : ∀ k, zR (v k)) (hR : LandR z v) (hL : LandI v) {B : LB} (hB : HB 13 z v B) {o : Nat} (hC : okC v (crC z o)) (ht : 0 ≤ z o 4 ∧ z o 4 ≤ 1000) {one : Int} (h1 : one = 0 ∨ one = 1) : cM (d + 4) 29 [xR 20 13, xR 21 2, xR 18 o, xI (zI (2 * one))] (hI z) = some (zI (spFirst v (fun l => B l (lineE v (crC z o) (z o 4))) one (v 10).toNat 0), hI z) := by
  have h10 := hB.2.1
  rw [e_X4_chosen, show xF = 999999 + 1 from rfl, l_X4_chosen_0]
  simp only [zLit]
  exact c_chosen_l d hz hv hR hL hB hC ht h1 (v 10).toNat 0 (by omega) (by omega) 999999 (by omega)
theorem c_actByHands (d : Nat) {z : zH} (hz : zRR z) {v : Int → Int} (hv : ∀ k, zR (v k)) (hR : LandR z v) (hL : LandI v) {B : LB} (hB : HB 13 z v B) {o : Nat} (hC : okC v (crC z o)) (ht : 0 ≤ z o 4 ∧ z o 4 ≤ 1000) : cM (d + 5) 95 [xR 26 1, xR 18 o] (hI z) = some (zI (if spOr v (crC z o) (spHand v B (crC z o) (z o 4)) = -1 then -3 else spOr v (crC z o) (spHand v B (crC z o) (z o 4))), hI z) := by
  have c0 := fun d => c_chosen d hz hv hR hL hB hC ht (one := 0) (Or.inl rfl)
  have c1 := fun d => c_chosen d hz hv hR hL hB hC ht (one := 1) (Or.inr rfl)
  simp only [Int.mul_zero, Int.mul_one] at c0 c1
  have b := spHand_b (v := v) (B := B) (c := crC z o) (t := z o 4)
  have c2 := fun d => c_orStr d hz hR hL hC (a := spHand v B (crC z o) (z o 4)) (zR_s (by omega))
  rw [e_X10_actByHands]
  simp only [zLit, Nat.reduceAdd, c0, xbd_n]
  simp only [c1, xbd_n, zI_mul, zI_add]
  rw [show 3 * spFirst v (fun l => B l (lineE v (crC z o) (z o 4))) 0 (v 10).toNat 0 + spFirst v (fun l => B l (lineE v (crC z o) (z o 4))) 1 (v 10).toNat 0 = spHand v B (crC z o) (z o 4) from rfl]
  simp only [c2, xbd_n]
theorem m_firstOf_l (d : Nat) {v : Int → Int} {E : Int → Int} {c : crft} {t : Int} (hE : E = lineE v c t) (ht : 0 ≤ t ∧ t ≤ 1000) (hL : LandI v) {z0 : zH} {B : LB} (hB : HB 13 z0 v B) (hC : okC v c) {one : Int} (h1 : one = 0 ∨ one = 1) : ∀ (m : Nat) (k : Int), 0 ≤ k → k + m = v 10 → ∀ z : zH, zRR z → z 101 = v → crM z = c → z 101 6 + z 100 28 = t → ∀ n, m < n → xw (r_X12_firstOf (d + 3) n 2 [some (xR 28 100), some (xI (zI one)), some (xI (zI k)), none] [] (hI z)) (fun q z' => q = spFirst v (fun l => B l E) one m k ∧ fr [114] z z') := by
  have h10 := hB.2.1
  have h0r : zR 0 := zR_s (by omega)
  have r10 : zR 10 := zR_s (by omega)
  have b10 : ¬ (zI 10 < zI 0 ∨ 572 ≤ (zI 10).toNatClampNeg) := by rw [zI_lt r10 h0r, zI_nat r10]; omega
  have n2 : ¬ zI 2 = zI 0 := by decide
  intro m
  induction m with
  | zero =>
    intro k k0 k1 z hz hv hc hT n hn
    obtain ⟨n, rfl⟩ := Nat.exists_eq_succ_of_ne_zero (show n ≠ 0 by omega)
    have e10 : hI z 101 (zI 10).toNatClampNeg = zI (v 10) := by rw [zI_nat r10, zld (by omega), hv]
    rw [l_X12_firstOf_2]
    simp only [zLit, lenX_s, if_neg b10, e10]
    rw [if_neg (by rw [zI_lt (zR_s (by omega)) (zR_s (by omega))]; omega)]
    exact xw_ret (zR_s (by omega)) hz ⟨rfl, fr_rf _ _⟩
  | succ m ih =>
    intro k k0 k1 z hz hv hc hT n hn
    obtain ⟨n, rfl⟩ := Nat.exists_eq_succ_of_ne_zero (show n ≠ 0 by omega)
    have e10 : hI z 101 (zI 10).toNatClampNeg = zI (v 10) := by rw [zI_nat r10, zld (by omega), hv]
    have kr : zR (296 + 3 * k) := zR_s (by omega)
    have bk : ¬ (zI (296 + 3 * k) < zI 0 ∨ 572 ≤ (zI (296 + 3 * k)).toNatClampNeg) := by rw [zI_lt kr h0r, zI_nat kr]; omega
    have ek : hI z 101 (zI (296 + 3 * k)).toNatClampNeg = zI (v (296 + 3 * k)) := by rw [zI_nat kr, zld (by omega), hv]
    obtain ⟨d1, d2, dd⟩ := hB.2.2 k k0 (by omega)
    have hEv : vEnv (crM z) (z 101 6 + z 100 28) (z 101 (24 + (crM z).1)) (z 101 (88 + (crM z).1)) = E := by rw [hT, hc, hv, hE]
    have c1 := m_holds (d + 1) (z := z) (l := k) (a := z 101 (297 + 3 * k)) (b := z 101 (298 + 3 * k)) (B := B k) (D := 16) (cc := z0 16) (ca := z0 15 k) (cb := z0 15 (k + 1)) hz (by rw [hv]; exact hL) (by rw [hv, hc]; exact hC) ⟨k0, by omega⟩ (fun j => by rw [hT, hc, hv]; exact vEnv_b hL hC ht j) (by omega) rfl rfl (by rw [hv]; exact dd)
    rw [hEv] at c1
    have ihk := fun z hz hv hc hT => ih (k + 1) (by omega) (by omega) z hz hv hc hT n (by omega)
    rw [l_X12_firstOf_2]
    simp only [zLit, lenX_s, if_neg b10, e10, zI_mul, zI_add, if_neg bk, if_neg n2, ek]
    rw [if_pos (by rw [zI_lt (zR_s (by omega)) (zR_s (by omega))]; omega)]
    unfold spFirst
    have dr : zR (v (296 + 3 * k)) := zR_s (by omega)
    have dv : zI (v (296 + 3 * k)) / zI 2 = zI (v (296 + 3 * k) / 2) := zI_div dr d2.1 (by omega) (zR_s (by omega))
    have dm : zI (v (296 + 3 * k)) - zI (v (296 + 3 * k)) / zI 2 * zI 2 = zI (v (296 + 3 * k) % 2) := zI_rem dr d2.1 (by omega) (zR_s (by omega))
    rw [dv] at dm
    simp only [dv]
    by_cases q : v (296 + 3 * k) / 2 = one
    · rw [if_pos (by rw [q])]
      refine xw_k c1 ?_
      intro r z1 hr hz1 ⟨w1, f1⟩
      have a1 : z1 101 = z 101 := f1 101 rfl
      have a2 : z1 100 = z 100 := f1 100 rfl
      have e2 : hI z1 101 (zI (296 + 3 * k)).toNatClampNeg = zI (v (296 + 3 * k)) := by rw [zI_nat kr, zld (by omega), a1, hv]
      by_cases s : B k E = 1
      · rw [if_neg (by rw [zI_eq hr h0r]; omega), if_pos ⟨q, s⟩]
        simp only [e2, dv, dm]
        simp only [zI_mul]
        exact xw_ret (zR_s (by omega)) hz1 ⟨rfl, f1⟩
      · rw [if_pos (by rw [w1]; have := dd.2.2.1 E; rw [show B k E = 0 by omega]), if_neg (fun x => s x.2)]
        refine xw_m (ihk z1 hz1 (by rw [a1]; exact hv) (by rw [← hc]; simp only [crM, a2]) (by rw [a1, a2]; exact hT)) ?_
        intro r2 z2 _ _ ⟨x1, x2⟩
        exact ⟨x1, fr_tr f1 x2 rfl⟩
    · rw [if_neg (by rw [zI_eq (zR_s (by omega)) (zR_s (by omega))]; exact q), if_neg (fun x => q x.1)]
      exact ihk z hz hv hc hT
theorem m_firstOf (d : Nat) {v : Int → Int} {c : crft} {t : Int} (ht : 0 ≤ t ∧ t ≤ 1000) (hL : LandI v) {z0 : zH} {B : LB} (hB : HB 13 z0 v B) (hC : okC v c) {one : Int} (h1 : one = 0 ∨ one = 1) {z : zH} (hz : zRR z) (hv : z 101 = v) (hc : crM z = c) (hT : z 101 6 + z 100 28 = t) : xw (cM (d + 4) 224 [xR 28 100, xI (zI one)] (hI z)) (fun q z' => q = spFirst v (fun l => B l (lineE v c t)) one (v 10).toNat 0 ∧ fr [114] z z') := by
  have h10 := hB.2.1
  rw [e_X12_firstOf, show xF = 999999 + 1 from rfl, l_X12_firstOf_0]
  simp only [zLit]
  exact m_firstOf_l d rfl ht hL hB hC h1 (v 10).toNat 0 (by omega) (by omega) z hz hv hc hT 999999 (by omega)
theorem m_handed (d : Nat) {v : Int → Int} {c : crft} {t : Int} (ht : 0 ≤ t ∧ t ≤ 1000) (hL : LandI v) {z0 : zH} {B : LB} (hB : HB 13 z0 v B) (hC : okC v c) {z : zH} (hz : zRR z) (hv : z 101 = v) (hc : crM z = c) (hT : z 101 6 + z 100 28 = t) : xw (cM (d + 5) 225 [xR 28 100] (hI z)) (fun q z' => q = spOr v c (spHand v B c t) ∧ fr [114] z z') := by
  rw [e_X12_handed]
  simp only [zLit]
  refine xw_k (m_firstOf d ht hL hB hC (Or.inl rfl) hz hv hc hT) ?_
  intro r1 z1 hr1 hz1 ⟨w1, f1⟩
  have a1 : z1 101 = z 101 := f1 101 rfl
  have a2 : z1 100 = z 100 := f1 100 rfl
  refine xw_k (m_firstOf d ht hL hB hC (Or.inr rfl) hz1 (by rw [a1]; exact hv) (by rw [← hc]; simp only [crM, a2]) (by rw [a1, a2]; exact hT)) ?_
  intro r2 z2 hr2 hz2 ⟨w2, f2⟩
  have a3 : z2 101 = v := by rw [f2 101 rfl, a1]; exact hv
  have a4 : crM z2 = c := by rw [← hc]; simp only [crM, f2 100 rfl, a2]
  have e : 3 * r1 + r2 = spHand v B c t := by rw [w1, w2]; rfl
  have b := spHand_b (v := v) (B := B) (c := c) (t := t)
  have c2 := fun d => m_flownFor d hz2 (by rw [a3]; exact hL) (by rw [a3, a4]; exact hC) (a := spHand v B c t) b
  rw [a3, a4] at c2
  simp only [zI_mul, zI_add, e, c2, xbd_n]
  have ob := spOr_b (v := v) (c := c) (a := spHand v B c t)
  exact xw_ret (by rcases ob with o | o <;> exact zR_s (by omega)) hz2 ⟨rfl, fr_tr f1 f2 rfl⟩
