/-! PURE, part 40: a LINE's code, the model -/
theorem m_value (d : Nat) {z : zH} (hz : zRR z) (hL : LandI (z 101)) (hC : okC (z 101) (crM z)) {k : Int} (hk : 0 ≤ k ∧ k ≤ 1006) : cM (d + 1) 221 [xR 28 100, xI (zI k)] (hI z) = some (zI (vVal (vEnv (crM z) (z 101 6 + z 100 28) (z 101 (24 + (crM z).1)) (z 101 (88 + (crM z).1))) k), hI z) := by
  have har := area hL.1 hL.2.1
  have c1 : 0 ≤ z 100 5 ∧ z 100 5 < z 101 0 * z 101 1 := hC.1
  have h3 : 0 ≤ z 100 8 ∧ z 100 8 ≤ 99 := hC.2.2.2
  have g := hL.2.2.1 (z 100 5) c1.1 (by omega)
  have h0r : zR 0 := zR_s (by omega)
  have r6 : zR 6 := zR_s (by omega)
  have r24 : zR (24 + z 100 5) := zR_s (by omega)
  have r88 : zR (88 + z 100 5) := zR_s (by omega)
  have b6 : ¬ (zI 6 < zI 0 ∨ 572 ≤ (zI 6).toNatClampNeg) := by rw [zI_lt r6 h0r, zI_nat r6]; omega
  have b24 : ¬ (zI (24 + z 100 5) < zI 0 ∨ 572 ≤ (zI (24 + z 100 5)).toNatClampNeg) := by rw [zI_lt r24 h0r, zI_nat r24]; omega
  have b88 : ¬ (zI (88 + z 100 5) < zI 0 ∨ 572 ≤ (zI (88 + z 100 5)).toNatClampNeg) := by rw [zI_lt r88 h0r, zI_nat r88]; omega
  have e6 : hI z 101 (zI 6).toNatClampNeg = zI (z 101 6) := by rw [zI_nat r6, zld (by omega)]
  have e24 : hI z 101 (zI (24 + z 100 5)).toNatClampNeg = zI (z 101 (24 + z 100 5)) := by rw [zI_nat r24, zld (by omega)]
  have e88 : hI z 101 (zI (88 + z 100 5)).toNatClampNeg = zI (z 101 (88 + z 100 5)) := by rw [zI_nat r88, zld (by omega)]
  have mx : (if zI 0 < zI (z 100 8 - z 101 (24 + z 100 5)) then zI (z 100 8 - z 101 (24 + z 100 5)) else zI 0) = zI (if 0 < z 100 8 - z 101 (24 + z 100 5) then z 100 8 - z 101 (24 + z 100 5) else 0) := zI_ilt (zR_s (by omega)) (zR_s (by omega)) _ _
  rw [e_X12_valueOf]
  unfold vVal
  simp only [zLit, hI_fs, zI_add, lenX_s, if_neg b6, if_neg b24, if_neg b88, e6, e24, e88, zI_sub, mx]
  by_cases q : k < 1000
  · rw [if_neg (by rw [zI_eq (zR_s (by omega)) (zR_s (by omega))]; omega), if_neg (by rw [zI_eq (zR_s (by omega)) (zR_s (by omega))]; omega), if_neg (by rw [zI_eq (zR_s (by omega)) (zR_s (by omega))]; omega), if_neg (by rw [zI_eq (zR_s (by omega)) (zR_s (by omega))]; omega), if_neg (by rw [zI_eq (zR_s (by omega)) (zR_s (by omega))]; omega), if_neg (by rw [zI_eq (zR_s (by omega)) (zR_s (by omega))]; omega), if_neg (by rw [zI_eq (zR_s (by omega)) (zR_s (by omega))]; omega), if_pos q]
  · rw [if_neg q]
    rcases (show k = 1000 ∨ k = 1001 ∨ k = 1002 ∨ k = 1003 ∨ k = 1004 ∨ k = 1005 ∨ k = 1006 by omega) with e | e | e | e | e | e | e <;> subst e <;> simp only [Int.reduceSub, vEnv, Int.reduceEq, reduceIte, if_true, if_false]
    all_goals (repeat rw [if_neg (by decide)])
theorem bif_n {α : Type} {x : Int32} {X : Option α} (h : xb01 x = true) : (bif xb01 x then X else none) = X := by rw [h]; rfl
theorem xb01_b {u : Int} (h : u = 0 ∨ u = 1) : xb01 (zI u) = true := by rcases h with w | w <;> rw [w] <;> decide
/-- the end of a comparison's row: the answer goes onto the pile -/
theorem m_h_put (d : Nat) {l n k u : Int} {z : zH} {Q : Int → zH → Prop} (N : Nat) (hu : u = 0 ∨ u = 1) (n0 : 0 ≤ n ∧ n < 100) (k0 : 0 ≤ k ∧ k < 160) (G : xw (r_X12_holds (d + 1) N 17 [some (xR 28 100), some (xI (zI l)), some (xI (zI (n + 1))), some (xI (zI (k + 1))), none, none, none, none] [] (hI (zup z 114 n u))) Q) : xw (r_X12_holds (d + 1) (N + 2) 150 [some (xR 28 100), some (xI (zI l)), some (xI (zI n)), some (xI (zI k)), none, none, none, none] [xI (zI u), xI (zI n), xR 3 114] (hI z)) Q := by
  have h0r : zR 0 := zR_s (by omega)
  have nr : zR n := zR_s (by omega)
  have bn : ¬ (zI n < zI 0 ∨ 160 ≤ (zI n).toNatClampNeg) := by rw [zI_lt nr h0r, zI_nat nr]; omega
  rw [l_X12_holds_150, bif_n (xb01_b hu)]
  simp only [zLit, lenX_s, if_neg bn, zI_add]
  rw [l_X12_holds_261, zI_nat nr, zst n0.1]
  simp only [zLit, zI_add]
  exact G
theorem m_h_put1 (d : Nat) {l n k a u : Int} {z : zH} {Q : Int → zH → Prop} (N : Nat) (hu : u = 0 ∨ u = 1) (n0 : 0 ≤ a ∧ a < 100) (k0 : 0 ≤ k ∧ k < 160) (G : xw (r_X12_holds (d + 1) N 17 [some (xR 28 100), some (xI (zI l)), some (xI (zI n)), some (xI (zI (k + 1))), none, none, none, none] [] (hI (zup z 114 a u))) Q) : xw (r_X12_holds (d + 1) (N + 2) 186 [some (xR 28 100), some (xI (zI l)), some (xI (zI n)), some (xI (zI k)), none, none, none, none] [xI (zI u), xI (zI a), xR 3 114] (hI z)) Q := by
  have h0r : zR 0 := zR_s (by omega)
  have nr : zR a := zR_s (by omega)
  have bn : ¬ (zI a < zI 0 ∨ 160 ≤ (zI a).toNatClampNeg) := by rw [zI_lt nr h0r, zI_nat nr]; omega
  rw [l_X12_holds_186, bif_n (xb01_b hu)]
  simp only [zLit, lenX_s, if_neg bn]
  rw [l_X12_holds_261, zI_nat nr, zst n0.1]
  simp only [zLit, zI_add]
  exact G
theorem m_h_put2 (d : Nat) {l n k a u : Int} {z : zH} {Q : Int → zH → Prop} (N : Nat) (hu : u = 0 ∨ u = 1) (n0 : 0 ≤ a ∧ a < 100) (k0 : 0 ≤ k ∧ k < 160) (G : xw (r_X12_holds (d + 1) N 17 [some (xR 28 100), some (xI (zI l)), some (xI (zI n)), some (xI (zI (k + 1))), none, none, none, none] [] (hI (zup z 114 a u))) Q) : xw (r_X12_holds (d + 1) (N + 2) 260 [some (xR 28 100), some (xI (zI l)), some (xI (zI n)), some (xI (zI k)), none, none, none, none] [xI (zI u), xI (zI a), xR 3 114] (hI z)) Q := by
  have h0r : zR 0 := zR_s (by omega)
  have nr : zR a := zR_s (by omega)
  have bn : ¬ (zI a < zI 0 ∨ 160 ≤ (zI a).toNatClampNeg) := by rw [zI_lt nr h0r, zI_nat nr]; omega
  rw [l_X12_holds_260, bif_n (xb01_b hu)]
  simp only [zLit, lenX_s, if_neg bn]
  rw [l_X12_holds_261, zI_nat nr, zst n0.1]
  simp only [zLit, zI_add]
  exact G
theorem m_h_cmp (d : Nat) {l n k c : Int} {z : zH} {r : Int → Int} {Q : Int → zH → Prop} (N : Nat) (hz : zRR z) (hL : LandI (z 101)) (hC : okC (z 101) (crM z)) (hr : r = vEnv (crM z) (z 101 6 + z 100 28) (z 101 (24 + (crM z).1)) (z 101 (88 + (crM z).1))) (hrb : ∀ k, 0 ≤ r k ∧ r k ≤ 1000) (q : 0 ≤ c) (ok : c < 3 * 1020100 ∧ c / 1010 % 1010 ≤ 1006 ∧ c % 1010 ≤ 1006) (G : ∀ u, (u = 0 ∨ u = 1) → u = vCmp (c / 1010 / 1010) (vVal r (c / 1010 % 1010)) (vVal r (c % 1010)) → xw (r_X12_holds (d + 1) N 150 [some (xR 28 100), some (xI (zI l)), some (xI (zI n)), some (xI (zI k)), none, none, none, none] [xI (zI u), xI (zI n), xR 3 114] (hI z)) Q) : xw (r_X12_holds (d + 1) (N + 1) 52 [some (xR 28 100), some (xI (zI l)), some (xI (zI n)), some (xI (zI k)), some (xI (zI c)), none, none, none] [] (hI z)) Q := by
  have h0r : zR 0 := zR_s (by omega)
  have h1r : zR 1 := zR_s (by omega)
  have r10 : zR 1010 := zR_s (by omega)
  have n1010 : ¬ zI 1010 = zI 0 := by decide
  have cr : zR c := by simp only [zR]; omega
  have dr : zR (c / 1010) := by simp only [zR]; omega
  have e1 : zI c / zI 1010 = zI (c / 1010) := zI_div cr q (by omega) r10
  have e2 : zI (c / 1010) / zI 1010 = zI (c / 1010 / 1010) := zI_div dr (by omega) (by omega) r10
  have e3 : zI (c / 1010) - zI (c / 1010 / 1010) * zI 1010 = zI (c / 1010 % 1010) := by rw [← e2]; exact zI_rem dr (by omega) (by omega) r10
  have e4 : zI c - zI (c / 1010) * zI 1010 = zI (c % 1010) := by rw [← e1]; exact zI_rem cr q (by omega) r10
  have v1 := fun d => m_value d hz hL hC (k := c / 1010 % 1010) (by omega)
  have v2 := fun d => m_value d hz hL hC (k := c % 1010) (by omega)
  rw [← hr] at v1 v2
  have rb : ∀ k, 0 ≤ k → k ≤ 1009 → 0 ≤ vVal r k ∧ vVal r k ≤ 1000 := by
    intro k k0 k1
    unfold vVal
    split
    · omega
    · exact hrb _
  have b1 := rb (c / 1010 % 1010) (by omega) (by omega)
  have b2 := rb (c % 1010) (by omega) (by omega)
  have sr : zR (c / 1010 / 1010) := by simp only [zR]; omega
  rw [l_X12_holds_52]
  simp only [zLit, if_neg n1010]
  simp only [e1, e2, e3, e4]
  simp only [v1, xbd_n]
  (try simp only [v2, xbd_n])
  generalize vVal r (c / 1010 % 1010) = a at *
  generalize vVal r (c % 1010) = b at *
  have ar : zR a := zR_s (by omega)
  have br : zR b := zR_s (by omega)
  by_cases s0 : c / 1010 / 1010 = 0
  · rw [if_pos (by rw [s0])]
    rw [s0, vCmp_0] at G
    by_cases w : a < b
    · rw [if_pos (by rw [zI_lt ar br]; exact w)]
      exact G 1 (Or.inr rfl) (by rw [if_pos w])
    · rw [if_neg (by rw [zI_lt ar br]; exact w)]
      exact G 0 (Or.inl rfl) (by rw [if_neg w])
  · rw [if_neg (by rw [zI_eq sr h0r]; exact s0)]
    by_cases s1 : c / 1010 / 1010 = 1
    · rw [if_pos (by rw [s1])]
      rw [s1, vCmp_1] at G
      by_cases w : a = b
      · rw [if_pos (by rw [w])]
        exact G 1 (Or.inr rfl) (by rw [if_pos w])
      · rw [if_neg (by rw [zI_eq ar br]; exact w)]
        exact G 0 (Or.inl rfl) (by rw [if_neg w])
    · rw [if_neg (by rw [zI_eq sr h1r]; exact s1)]
      rw [vCmp_2 s0 s1] at G
      by_cases w : b < a
      · rw [if_pos (by rw [zI_lt br ar]; exact w)]
        exact G 1 (Or.inr rfl) (by rw [if_pos w])
      · rw [if_neg (by rw [zI_lt br ar]; exact w)]
        exact G 0 (Or.inl rfl) (by rw [if_neg w])
theorem m_h_not (d : Nat) {l n k : Int} {z : zH} {Q : Int → zH → Prop} (N : Nat) (hz : zRR z) (n0 : 1 ≤ n ∧ n < 100) (k0 : 0 ≤ k ∧ k < 160) (pb : z 114 (n - 1) = 0 ∨ z 114 (n - 1) = 1) (G : ∀ u, (u = 0 ∨ u = 1) → u = 1 - z 114 (n - 1) → xw (r_X12_holds (d + 1) N 17 [some (xR 28 100), some (xI (zI l)), some (xI (zI n)), some (xI (zI (k + 1))), none, none, none, none] [] (hI (zup z 114 (n - 1) u))) Q) : xw (r_X12_holds (d + 1) (N + 3) 157 [some (xR 28 100), some (xI (zI l)), some (xI (zI n)), some (xI (zI k)), some (xI (zI (-1))), none, none, none] [] (hI z)) Q := by
  have h0r : zR 0 := zR_s (by omega)
  have nr : zR (n - 1) := zR_s (by omega)
  have bn : ¬ (zI (n - 1) < zI 0 ∨ 160 ≤ (zI (n - 1)).toNatClampNeg) := by rw [zI_lt nr h0r, zI_nat nr]; omega
  have en : hI z 114 (zI (n - 1)).toNatClampNeg = zI (z 114 (n - 1)) := by rw [zI_nat nr, zld (by omega)]
  have em : zI (-1) = zI (-1) := rfl
  rw [l_X12_holds_157]
  simp only [zLit, zI_neg, zI_sub, lenX_s]
  rw [if_pos trivial, if_neg bn, en]
  rcases pb with w | w
  · rw [if_pos (by rw [w])]
    exact m_h_put1 d N (Or.inr rfl) (by omega) k0 (G 1 (Or.inr rfl) (by rw [w]; rfl))
  · rw [if_neg (by rw [w]; decide)]
    exact m_h_put1 d N (Or.inl rfl) (by omega) k0 (G 0 (Or.inl rfl) (by rw [w]; rfl))
theorem m_h_two (d : Nat) {l n k c : Int} {z : zH} {Q : Int → zH → Prop} (N : Nat) (hz : zRR z) (hc : c = -2 ∨ c = -3) (n0 : 2 ≤ n ∧ n < 100) (k0 : 0 ≤ k ∧ k < 160) (pb : z 114 (n - 1) = 0 ∨ z 114 (n - 1) = 1) (pb2 : z 114 (n - 2) = 0 ∨ z 114 (n - 2) = 1) (G : ∀ u, (u = 0 ∨ u = 1) → u = (if c = -2 then z 114 (n - 2) * z 114 (n - 1) else z 114 (n - 2) + z 114 (n - 1) - z 114 (n - 2) * z 114 (n - 1)) → xw (r_X12_holds (d + 1) N 17 [some (xR 28 100), some (xI (zI l)), some (xI (zI (n - 1))), some (xI (zI (k + 1))), none, none, none, none] [] (hI (zup z 114 (n - 2) u))) Q) : xw (r_X12_holds (d + 1) (N + 5) 157 [some (xR 28 100), some (xI (zI l)), some (xI (zI n)), some (xI (zI k)), some (xI (zI c)), none, none, none] [] (hI z)) Q := by
  have h0r : zR 0 := zR_s (by omega)
  have cr : zR c := zR_s (by omega)
  have nr0 : zR n := zR_s (by omega)
  have nr : zR (n - 1) := zR_s (by omega)
  have nr2 : zR (n - 2) := zR_s (by omega)
  have bn : ¬ (zI (n - 1) < zI 0 ∨ 160 ≤ (zI (n - 1)).toNatClampNeg) := by rw [zI_lt nr h0r, zI_nat nr]; omega
  have bn2 : ¬ (zI (n - 2) < zI 0 ∨ 160 ≤ (zI (n - 2)).toNatClampNeg) := by rw [zI_lt nr2 h0r, zI_nat nr2]; omega
  have en : hI z 114 (zI (n - 1)).toNatClampNeg = zI (z 114 (n - 1)) := by rw [zI_nat nr, zld (by omega)]
  have en2 : hI z 114 (zI (n - 2)).toNatClampNeg = zI (z 114 (n - 2)) := by rw [zI_nat nr2, zld (by omega)]
  have m1 : n + -1 = n - 1 := rfl
  have m2 : n - 1 - 1 = n - 2 := by omega
  rw [l_X12_holds_157]
  simp only [zLit, zI_neg]
  rw [if_neg (by rw [zI_eq cr (zR_s (by omega))]; omega), l_X12_holds_190, l_X12_holds_193]
  simp only [zLit, zI_neg, zI_sub, zI_add, lenX_s, m1, m2]
  simp only [if_neg bn, if_neg bn2, en, en2]
  have st : ∀ u : Int, (u = 0 ∨ u = 1) → u = (if c = -2 then z 114 (n - 2) * z 114 (n - 1) else z 114 (n - 2) + z 114 (n - 1) - z 114 (n - 2) * z 114 (n - 1)) → xw (r_X12_holds (d + 1) (N + 2) 260 [some (xR 28 100), some (xI (zI l)), some (xI (zI (n - 1))), some (xI (zI k)), none, none, none, none] [xI (zI u), xI (zI (n - 2)), xR 3 114] (hI z)) Q := fun u hu huv => m_h_put2 d N hu (by omega) k0 (G u hu huv)
  rcases hc with q2 | q2 <;> subst q2
  · rw [if_pos rfl]
    rw [if_pos rfl] at st
    rcases pb2 with w2 | w2
    · rw [if_pos (by rw [w2])]
      exact st 0 (Or.inl rfl) (by rw [w2]; simp)
    · rw [if_neg (by rw [w2]; decide)]
      rcases pb with w | w
      · rw [if_pos (by rw [w])]
        exact st 0 (Or.inl rfl) (by rw [w]; simp)
      · rw [if_neg (by rw [w]; decide)]
        exact st 1 (Or.inr rfl) (by rw [w, w2]; rfl)
  · rw [if_neg (by decide)]
    rw [if_neg (by decide)] at st
    rcases pb2 with w2 | w2
    · rw [if_pos (by rw [w2])]
      rcases pb with w | w
      · rw [if_pos (by rw [w])]
        exact st 0 (Or.inl rfl) (by rw [w, w2]; rfl)
      · rw [if_neg (by rw [w]; decide)]
        exact st 1 (Or.inr rfl) (by rw [w, w2]; rfl)
    · rw [if_neg (by rw [w2]; decide)]
      exact st 1 (Or.inr rfl) (by rw [w2]; omega)
theorem m_holds_l (d : Nat) {mc r : Int → Int} {l kb : Int} (hl : 0 ≤ l ∧ l ≤ 8) (hkb : kb ≤ 160) (hrb : ∀ k, 0 ≤ r k ∧ r k ≤ 1000) : ∀ (m : Nat) (k : Int) (p : Int → Int) (n : Int) (p' : Int → Int) (n' : Int), Mrun mc r m k p n p' n' → 0 ≤ k → k + m = kb → ∀ z : zH, zRR z → LandI (z 101) → okC (z 101) (crM z) → r = vEnv (crM z) (z 101 6 + z 100 28) (z 101 (24 + (crM z).1)) (z 101 (88 + (crM z).1)) → z 114 = p → z 101 (298 + 3 * l) = kb → (∀ j, 0 ≤ j → j < 160 → z 101 (323 + j) = mc j) → (∀ j, 0 ≤ j → j < n → p j = 0 ∨ p j = 1) → (p' 0 = 0 ∨ p' 0 = 1) → 0 ≤ n → ∀ N, 6 * m + 1 ≤ N → xw (r_X12_holds (d + 1) N 17 [some (xR 28 100), some (xI (zI l)), some (xI (zI n)), some (xI (zI k)), none, none, none, none] [] (hI z)) (fun q z' => q = p' 0 ∧ fr [114] z z') := by
  have h0r : zR 0 := zR_s (by omega)
  have h1r : zR 1 := zR_s (by omega)
  have lr : zR (296 + 3 * l + 2) := zR_s (by omega)
  have bl : ¬ (zI (296 + 3 * l + 2) < zI 0 ∨ 572 ≤ (zI (296 + 3 * l + 2)).toNatClampNeg) := by rw [zI_lt lr h0r, zI_nat lr]; omega
  intro m
  induction m with
  | zero =>
    intro k p n p' n' hM k0 k1 z hz hL hC hr hp hkb2 hmc hb hf n0 N hN
    obtain ⟨N, rfl⟩ : ∃ j, N = j + 1 := ⟨N - 1, by omega⟩
    obtain ⟨e1, e2⟩ := hM
    subst e1
    have el : hI z 101 (zI (296 + 3 * l + 2)).toNatClampNeg = zI kb := by rw [zI_nat lr, zld (by omega), show 296 + 3 * l + 2 = 298 + 3 * l by omega, hkb2]
    have e0 : hI z 114 (zI 0).toNatClampNeg = zI (p' 0) := by rw [zI_nat h0r, zld (by omega), hp]
    rw [l_X12_holds_17]
    simp only [zLit, zI_mul, zI_add, lenX_s, if_neg bl, el, e0]
    rw [if_neg (by rw [zI_lt (zR_s (by omega)) (zR_s (by omega))]; omega), if_neg (by rw [zI_lt h0r h0r, zI_nat h0r]; omega)]
    rcases hf with q | q
    · rw [bif_n (xb01_b (Or.inl q))]
      exact xw_ret (by rw [q]; exact h0r) hz ⟨rfl, fr_rf _ _⟩
    · rw [bif_n (xb01_b (Or.inr q))]
      exact xw_ret (by rw [q]; exact h1r) hz ⟨rfl, fr_rf _ _⟩
  | succ m ih =>
    intro k p n p' n' hM k0 k1 z hz hL hC hr hp hkb2 hmc hb hf n0 N hN
    obtain ⟨ok, nb, hM⟩ := hM
    have el : hI z 101 (zI (296 + 3 * l + 2)).toNatClampNeg = zI kb := by rw [zI_nat lr, zld (by omega), show 296 + 3 * l + 2 = 298 + 3 * l by omega, hkb2]
    have kr : zR (323 + k) := zR_s (by omega)
    have bk : ¬ (zI (323 + k) < zI 0 ∨ 572 ≤ (zI (323 + k)).toNatClampNeg) := by rw [zI_lt kr h0r, zI_nat kr]; omega
    have ek : hI z 101 (zI (323 + k)).toNatClampNeg = zI (mc k) := by rw [zI_nat kr, zld (by omega), hmc k k0 (by omega)]
    -- a value is put on the pile, the run goes on
    have put : ∀ (a u n2 : Int) (M : Nat), 0 ≤ a → a < 100 → (u = 0 ∨ u = 1) → 0 ≤ n2 → Mrun mc r m (k + 1) (mPut p a u) n2 p' n' → (∀ j, 0 ≤ j → j < n2 → mPut p a u j = 0 ∨ mPut p a u j = 1) → 6 * m + 1 ≤ M → xw (r_X12_holds (d + 1) M 17 [some (xR 28 100), some (xI (zI l)), some (xI (zI n2)), some (xI (zI (k + 1))), none, none, none, none] [] (hI (zup z 114 a u))) (fun q z' => q = p' 0 ∧ fr [114] z z') := by
      intro a u n2 M a0 a1 hu n20 hM2 hb2 hM3
      have e114 : zup z 114 a u 114 = mPut p a u := by
        funext j
        rw [zup_at, hp]
        unfold mPut
        simp only [true_and]
      have e100 : zup z 114 a u 100 = z 100 := zup_ne _ _ _ (by decide)
      have e101 : zup z 114 a u 101 = z 101 := zup_ne _ _ _ (by decide)
      refine xw_m (ih (k + 1) (mPut p a u) n2 p' n' hM2 (by omega) (by omega) (zup z 114 a u) (zRR_up hz _ _ (zR_s (by omega))) (by rw [e101]; exact hL) (by rw [e101]; simp only [crM, e100]; exact hC) (by rw [e101]; simp only [crM, e100]; exact hr) e114 (by rw [e101]; exact hkb2) (fun j j0 j1 => by rw [e101]; exact hmc j j0 j1) hb2 hf n20 M hM3) ?_
      intro q z' _ _ ⟨w1, w2⟩
      exact ⟨w1, fr_tr (fr_up (fr_rf [114] _) _ _ rfl) w2 rfl⟩
    obtain ⟨N, rfl⟩ : ∃ j, N = j + 6 := ⟨N - 6, by omega⟩
    rw [l_X12_holds_17]
    simp only [zLit, zI_mul, zI_add, lenX_s, if_neg bl, el, if_neg bk, ek]
    rw [if_pos (by rw [zI_lt (zR_s (by omega)) (zR_s (by omega))]; omega)]
    generalize hc : mc k = c at *
    unfold mOk at ok
    unfold mStep at hM
    by_cases q : 0 ≤ c
    · rw [if_pos q] at ok hM
      rw [if_neg (by rw [zI_lt (by simp only [zR]; omega) h0r]; omega)]
      refine m_h_cmp d (N + 4) hz hL hC hr hrb q ok fun u hu huv => m_h_put d (N + 2) hu (by omega) (by omega) ?_
      rw [← huv] at hM
      refine put n u (n + 1) (N + 2) n0 (by omega) hu (by omega) hM (fun j j0 j1 => ?_) (by omega)
      unfold mPut
      split
      · exact hu
      · exact hb j j0 (by omega)
    · rw [if_neg q] at ok hM
      by_cases q1 : c = -1
      · rw [if_pos q1] at ok hM
        rw [if_pos (by rw [zI_lt (by simp only [zR]; omega) h0r]; omega), q1]
        refine m_h_not d (N + 2) hz (by omega) (by omega) (by rw [hp]; exact hb (n - 1) (by omega) (by omega)) fun u hu huv => ?_
        rw [hp] at huv
        rw [← huv] at hM
        refine put (n - 1) u n (N + 2) (by omega) (by omega) hu n0 hM (fun j j0 j1 => ?_) (by omega)
        unfold mPut
        split
        · exact hu
        · exact hb j j0 (by omega)
      · rw [if_neg q1] at ok hM
        rw [if_pos (by rw [zI_lt (by simp only [zR]; omega) h0r]; omega)]
        refine m_h_two d N hz ok.1 (by omega) (by omega) (by rw [hp]; exact hb (n - 1) (by omega) (by omega)) (by rw [hp]; exact hb (n - 2) (by omega) (by omega)) fun u hu huv => ?_
        rw [hp] at huv
        rw [← huv] at hM
        refine put (n - 2) u (n - 1) N (by omega) (by omega) hu (by omega) hM (fun j j0 j1 => ?_) (by omega)
        unfold mPut
        split
        · exact hu
        · exact hb j j0 (by omega)
theorem m_holds (d : Nat) {z : zH} {l a b : Int} {cc : Int → Int} {B : (Int → Int) → Int} {D : Nat} {ca cb : Int} (hz : zRR z) (hL : LandI (z 101)) (hC : okC (z 101) (crM z)) (hl : 0 ≤ l ∧ l ≤ 8) (hrb : ∀ k, 0 ≤ vEnv (crM z) (z 101 6 + z 100 28) (z 101 (24 + (crM z).1)) (z 101 (88 + (crM z).1)) k ∧ vEnv (crM z) (z 101 6 + z 100 28) (z 101 (24 + (crM z).1)) (z 101 (88 + (crM z).1)) k ≤ 1000) (hD : D ≤ 100) (ha : z 101 (297 + 3 * l) = a) (hbb : z 101 (298 + 3 * l) = b) (hB : Den cc (fun j => z 101 (323 + j)) ca cb a b B D) : xw (cM (d + 2) 222 [xR 28 100, xI (zI l)] (hI z)) (fun q z' => q = B (vEnv (crM z) (z 101 6 + z 100 28) (z 101 (24 + (crM z).1)) (z 101 (88 + (crM z).1))) ∧ fr [114] z z') := by
  have h0r : zR 0 := zR_s (by omega)
  obtain ⟨_, hab, hB1, _, hM⟩ := hB
  obtain ⟨p', hM, e, _⟩ := hM (vEnv (crM z) (z 101 6 + z 100 28) (z 101 (24 + (crM z).1)) (z 101 (88 + (crM z).1))) (z 114) 0 (by omega) (by omega) (fun j j0 j1 => by omega)
  replace e : p' 0 = B (vEnv (crM z) (z 101 6 + z 100 28) (z 101 (24 + (crM z).1)) (z 101 (88 + (crM z).1))) := e
  have lr : zR (296 + 3 * l + 1) := zR_s (by omega)
  have bl : ¬ (zI (296 + 3 * l + 1) < zI 0 ∨ 572 ≤ (zI (296 + 3 * l + 1)).toNatClampNeg) := by rw [zI_lt lr h0r, zI_nat lr]; omega
  have el : hI z 101 (zI (296 + 3 * l + 1)).toNatClampNeg = zI a := by rw [zI_nat lr, zld (by omega), show 296 + 3 * l + 1 = 297 + 3 * l by omega, ha]
  rw [e_X12_holds, show xF = (xF - 1) + 1 from rfl, l_X12_holds_0]
  simp only [zLit, zI_mul, zI_add, lenX_s, if_neg bl, el]
  refine xw_m (m_holds_l d hl (kb := b) hab.2.2 hrb (b - a).toNat a (z 114) 0 p' (0 + 1) hM hab.1 (by omega) z hz hL hC rfl rfl hbb (fun j _ _ => rfl) (fun j j0 j1 => by omega) (by rw [e]; exact hB1 _) (by omega) _ (by simp only [xF]; omega)) ?_
  intro q z' _ _ ⟨w1, w2⟩
  exact ⟨by rw [w1, e], w2⟩
