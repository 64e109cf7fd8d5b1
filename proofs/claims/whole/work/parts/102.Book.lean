/-! PURE, part 32: the book -/
def spOrr (s i : Int) : Int := if spBit s i = 1 then s else s + 2 ^ i.toNat
theorem orrL : ∀ s : Fin 128, ∀ i : Fin 7, zI (s.val : Int) ||| (zI 1 <<< (zI (i.val : Int) &&& zI 31)) = zI (spOrr (s.val : Int) (i.val : Int)) := by decide +kernel
theorem orr_I {s i : Int} (hs : 0 ≤ s ∧ s < 128) (hi : 0 ≤ i ∧ i < 7) : zI s ||| (zI 1 <<< (zI i &&& zI 31)) = zI (spOrr s i) := by
  have h := orrL ⟨s.toNat, by omega⟩ ⟨i.toNat, by omega⟩
  simp only [Int.toNat_of_nonneg hs.1, Int.toNat_of_nonneg hi.1] at h
  exact h
theorem orrbL : ∀ n : Fin 8, ∀ s : Fin 128, ∀ i : Fin 7, i.val < n.val → (s.val : Int) < 2 ^ n.val → spBit (s.val : Int) (i.val : Int) = 0 → (s.val : Int) < spOrr (s.val : Int) (i.val : Int) ∧ spOrr (s.val : Int) (i.val : Int) < 2 ^ n.val := by decide +kernel
theorem orr_b {n : Nat} {s i : Int} (hn : n ≤ 7) (hs : 0 ≤ s ∧ s < 2 ^ n) (hi : 0 ≤ i ∧ i < n) (hb : spBit s i = 0) : s < spOrr s i ∧ spOrr s i < 2 ^ n := by
  have pb : (2 : Int) ^ n ≤ 128 := by
    have : ∀ i : Fin 8, (2 : Int) ^ i.val ≤ 128 := by decide
    exact this ⟨n, by omega⟩
  have h := orrbL ⟨n, by omega⟩ ⟨s.toNat, by omega⟩ ⟨i.toNat, by omega⟩
  simp only [Int.toNat_of_nonneg hs.1, Int.toNat_of_nonneg hi.1] at h
  exact h (by omega) hs.2 hb
def spPop (n : Nat) (s : Int) : Int := spSum (spBit s) n 0 0
theorem popL : ∀ n : Fin 8, ∀ s : Fin 128, ∀ i : Fin 7, i.val < n.val → spBit (s.val : Int) (i.val : Int) = 0 → spPop n.val (spOrr (s.val : Int) (i.val : Int)) = spPop n.val (s.val : Int) + 1 := by decide +kernel
theorem pop_b {n : Nat} {s i : Int} (hn : n ≤ 7) (hs : 0 ≤ s ∧ s < 128) (hi : 0 ≤ i ∧ i < n) (hb : spBit s i = 0) : spPop n (spOrr s i) = spPop n s + 1 := by
  have h := popL ⟨n, by omega⟩ ⟨s.toNat, by omega⟩ ⟨i.toNat, by omega⟩
  simp only [Int.toNat_of_nonneg hs.1, Int.toNat_of_nonneg hi.1] at h
  exact h (by omega) hb
theorem pop_ex {s : Int} : ∀ (m : Nat) (e a : Int), spSum (spBit s) m e a < a + m → ∃ k, e ≤ k ∧ k < e + m ∧ spBit s k = 0 := by
  intro m
  induction m with
  | zero => intro e a h; rw [spSum] at h; omega
  | succ m ih =>
    intro e a h
    rcases spBit_b s e with q | q
    · exact ⟨e, by omega, by omega, q⟩
    · rw [spSum, q] at h
      obtain ⟨k, k0, k1, k2⟩ := ih (e + 1) (a + 1) (by omega)
      exact ⟨k, by omega, by omega, k2⟩
def spTk (v : Int → Int) (s j : Int) : Int := spBit s j * v (483 + 3 * j)
abbrev spS (v : Int → Int) (s : Int) : Int := spSum (spTk v s) (v 11).toNat 0 0
def spCnt (v : Int → Int) (i s : Int) : Int := if spS v s + v (483 + 3 * i) ≤ v (484 + 3 * i) then v (485 + 3 * i) else 0
theorem spS_b {z : zH} {v : Int → Int} (hT : PSteps 17 z v) (s : Int) : 0 ≤ spS v s ∧ spS v s ≤ 140 := by
  have h4 := hT.1.2.2.2.1
  have b := spSum_b (f := spTk v s) (lo := 0) (hi := 20) (v 11).toNat 0 0 (fun k k0 k1 => by
    have := (hT.2 k k0 (by omega)).1
    unfold spTk
    rcases spBit_b s k with q | q <;> rw [q]
    · omega
    · omega)
  have e : ((v 11).toNat : Int) = v 11 := Int.toNat_of_nonneg h4.1
  rw [e] at b
  show 0 ≤ spSum (spTk v s) (v 11).toNat 0 0 ∧ spSum (spTk v s) (v 11).toNat 0 0 ≤ 140
  omega
theorem spCnt_b {z : zH} {v : Int → Int} (hT : PSteps 17 z v) {i s : Int} (hi : 0 ≤ i ∧ i < v 11) : 0 ≤ spCnt v i s ∧ spCnt v i s ≤ 99 := by
  have := hT.2 i hi.1 hi.2
  unfold spCnt
  split <;> omega
theorem c_stepSum (d : Nat) {z : zH} (hz : zRR z) {v : Int → Int} (hT : PSteps 17 z v) {s : Int} (hs : 0 ≤ s ∧ s < 128) : cM (d + 3) 60 [xR 23 17, xI (zI s), xI (zI 0)] (hI z) = some (zI (spS v s), hI z) := by
  have cs := c_setSum d hz hT.1 (by omega) (f := 0) (set := s) ⟨hs.1, by omega⟩ (by omega) (by simp only [Nat.reduceAdd, lenX_s]; rfl) (by omega)
  have e2 : (fun e => spBit s e * v (483 + (e * 3 + 0))) = spTk v s := by
    funext k
    unfold spTk
    rw [show (483 : Int) + (k * 3 + 0) = 483 + 3 * k by omega]
  rw [e2] at cs
  exact cs
theorem c_counting (d : Nat) {z : zH} (hz : zRR z) {v : Int → Int} (hT : PSteps 17 z v) {i s : Int} (hi : 0 ≤ i ∧ i < v 11) : cM (d + 3) 12 [xR 23 17, xI (zI i), xI (zI (spS v s))] (hI z) = some (zI (spCnt v i s), hI z) := by
  have w := hT.2 i hi.1 hi.2
  have sb := spS_b hT s
  have n0 := fun d => c_rowN d hz hT.1 (e := i) (f := 0) hi (by omega) (by simp only [Nat.reduceAdd, lenX_s]; rfl) (by omega)
  have n1 := fun d => c_rowN d hz hT.1 (e := i) (f := 1) hi (by omega) (by simp only [Nat.reduceAdd, lenX_s]; rfl) (by omega)
  have n2 := fun d => c_rowN d hz hT.1 (e := i) (f := 2) hi (by omega) (by simp only [Nat.reduceAdd, lenX_s]; rfl) (by omega)
  simp only [show (483 : Int) + (i * 3 + 0) = 483 + 3 * i by omega] at n0
  simp only [show (483 : Int) + (i * 3 + 1) = 484 + 3 * i by omega] at n1
  simp only [show (483 : Int) + (i * 3 + 2) = 485 + 3 * i by omega] at n2
  rw [e_X1_counting]
  simp only [zLit, n0, xbd_n]
  simp only [n1, xbd_n, zI_add]
  unfold spCnt
  by_cases q : spS v s + v (483 + 3 * i) ≤ v (484 + 3 * i)
  · rw [if_neg (by rw [zI_lt (zR_s (by omega)) (zR_s (by omega))]; omega), if_pos q]
    simp only [n2, xbd_n]
  · rw [if_pos (by rw [zI_lt (zR_s (by omega)) (zR_s (by omega))]; omega), if_neg q]
theorem m_counts_l (d : Nat) {z : zH} (hz : zRR z) {z0 : zH} (hT : PSteps 17 z0 (z 101)) {i s : Int} (hi : 0 ≤ i ∧ i < z 101 11) (hs : 0 ≤ s ∧ s < 128) : ∀ (m : Nat) (j a : Int), 0 ≤ j → j + m = z 101 11 → (0 ≤ a ∧ a ≤ 20 + 20 * j) → ∀ n, m < n → r_X12_counts d n 16 [some (xR 28 100), some (xI (zI i)), some (xI (zI s)), some (xI (zI a)), some (xI (zI j))] [] (hI z) = some (zI (if spSum (spTk (z 101) s) m j a ≤ z 101 (484 + 3 * i) then z 101 (485 + 3 * i) else 0), hI z) := by
  have h4 := hT.1.2.2.2.1
  have h11 : zR 11 := zR_s (by omega)
  have h0r : zR 0 := zR_s (by omega)
  have w := hT.2 i hi.1 hi.2
  intro m
  induction m with
  | zero =>
    intro j a j0 j1 ha n hn
    obtain ⟨n, rfl⟩ := Nat.exists_eq_succ_of_ne_zero (show n ≠ 0 by omega)
    have i1r : zR (483 + 3 * i + 1) := zR_s (by omega)
    have i2r : zR (483 + 3 * i + 2) := zR_s (by omega)
    have b1 : ¬ (zI (483 + 3 * i + 1) < zI 0 ∨ 572 ≤ (zI (483 + 3 * i + 1)).toNatClampNeg) := by rw [zI_lt i1r h0r, zI_nat i1r]; omega
    have b2 : ¬ (zI (483 + 3 * i + 2) < zI 0 ∨ 572 ≤ (zI (483 + 3 * i + 2)).toNatClampNeg) := by rw [zI_lt i2r h0r, zI_nat i2r]; omega
    have e1 : hI z 101 (zI (483 + 3 * i + 1)).toNatClampNeg = zI (z 101 (484 + 3 * i)) := by rw [zI_nat i1r, zld (by omega), show 483 + 3 * i + 1 = 484 + 3 * i by omega]
    have e2 : hI z 101 (zI (483 + 3 * i + 2)).toNatClampNeg = zI (z 101 (485 + 3 * i)) := by rw [zI_nat i2r, zld (by omega), show 483 + 3 * i + 2 = 485 + 3 * i by omega]
    rw [l_X12_counts_16, spSum]
    simp only [zLit, lenX_s, zI_nat h11, zld (show (0 : Int) ≤ 11 by omega), zI_mul, zI_add, e1, e2, if_neg b1, if_neg b2]
    rw [if_neg (by rw [zI_lt h11 h0r]; omega), if_neg (by rw [zI_lt (zR_s (by omega)) (zR_s (by omega))]; omega)]
    by_cases q : a ≤ z 101 (484 + 3 * i)
    · rw [if_neg (by rw [zI_lt (zR_s (by omega)) (zR_s (by omega))]; omega), if_pos q]
    · rw [if_pos (by rw [zI_lt (zR_s (by omega)) (zR_s (by omega))]; omega), if_neg q]
  | succ m ih =>
    intro j a j0 j1 ha n hn
    obtain ⟨n, rfl⟩ := Nat.exists_eq_succ_of_ne_zero (show n ≠ 0 by omega)
    have wj := hT.2 j j0 (by omega)
    have jr : zR (483 + 3 * j) := zR_s (by omega)
    have bj : ¬ (zI (483 + 3 * j) < zI 0 ∨ 572 ≤ (zI (483 + 3 * j)).toNatClampNeg) := by rw [zI_lt jr h0r, zI_nat jr]; omega
    have ej : hI z 101 (zI (483 + 3 * j)).toNatClampNeg = zI (z 101 (483 + 3 * j)) := by rw [zI_nat jr, zld (by omega)]
    have hx := ih (j + 1) (a + spTk (z 101) s j) (by omega) (by omega) (by unfold spTk; rcases spBit_b s j with q | q <;> rw [q] <;> omega) n (by omega)
    rw [l_X12_counts_16, spSum]
    simp only [zLit, lenX_s, zI_nat h11, zld (show (0 : Int) ≤ 11 by omega), zI_mul, zI_add, ej, if_neg bj, bit_I (show 0 ≤ s ∧ s < 256 by omega) (show 0 ≤ j ∧ j < 8 by omega)]
    rw [if_neg (by rw [zI_lt h11 h0r]; omega), if_pos (by rw [zI_lt (zR_s (by omega)) (zR_s (by omega))]; omega)]
    exact hx
theorem spSum_sh (f : Int → Int) : ∀ (m : Nat) (e a b : Int), spSum f m e (a + b) = spSum f m e a + b := by
  intro m
  induction m with
  | zero => intro e a b; rfl
  | succ m ih =>
    intro e a b
    rw [spSum, spSum, show a + b + f e = a + f e + b by omega, ih]
theorem m_counts (d : Nat) {z : zH} (hz : zRR z) {z0 : zH} (hT : PSteps 17 z0 (z 101)) {i s : Int} (hi : 0 ≤ i ∧ i < z 101 11) (hs : 0 ≤ s ∧ s < 128) : cM (d + 1) 233 [xR 28 100, xI (zI i), xI (zI s)] (hI z) = some (zI (spCnt (z 101) i s), hI z) := by
  have h4 := hT.1.2.2.2.1
  have h0r : zR 0 := zR_s (by omega)
  have w := hT.2 i hi.1 hi.2
  have ir : zR (483 + 3 * i) := zR_s (by omega)
  have bi : ¬ (zI (483 + 3 * i) < zI 0 ∨ 572 ≤ (zI (483 + 3 * i)).toNatClampNeg) := by rw [zI_lt ir h0r, zI_nat ir]; omega
  have ei : hI z 101 (zI (483 + 3 * i)).toNatClampNeg = zI (z 101 (483 + 3 * i)) := by rw [zI_nat ir, zld (by omega)]
  have e := m_counts_l d hz hT hi hs (z 101 11).toNat 0 (z 101 (483 + 3 * i)) (by omega) (by omega) (by omega) 999999 (by omega)
  have e2 := spSum_sh (spTk (z 101) s) (z 101 11).toNat 0 0 (z 101 (483 + 3 * i))
  rw [Int.zero_add] at e2
  rw [e2] at e
  rw [e_X12_counts, show xF = 999999 + 1 from rfl, l_X12_counts_0]
  simp only [zLit, lenX_s, zI_mul, zI_add, ei, if_neg bi]
  exact e
/-! the best sums, set by set -/
def spMx (a b : Int) : Int := if a < b then b else a
def spFold (v A : Int → Int) (s : Int) : Nat → Int → Int → Int
  | 0, _, g => g
  | m + 1, i, g => if spBit s i = 1 then spFold v A s m (i + 1) g else spFold v A s m (i + 1) (spMx g (spCnt v i s + A (spOrr s i)))
theorem spFold_eq {v A A' : Int → Int} {n : Nat} (hn : n ≤ 7) {s : Int} (hs : 0 ≤ s ∧ s < 2 ^ n) (h : ∀ t, s < t → t < 2 ^ n → A' t = A t) : ∀ (m : Nat) (i g : Int), 0 ≤ i → i + m = n → spFold v A' s m i g = spFold v A s m i g := by
  intro m
  induction m with
  | zero => intro i g _ _; rfl
  | succ m ih =>
    intro i g i0 i1
    rw [spFold, spFold]
    rcases spBit_b s i with q | q
    · have b := orr_b hn hs (i := i) ⟨i0, by omega⟩ q
      rw [if_neg (by omega), if_neg (by omega), h _ b.1 b.2, ih (i + 1) _ (by omega) (by omega)]
    · rw [if_pos q, if_pos q, ih (i + 1) _ (by omega) (by omega)]
theorem spFold_b {v A : Int → Int} {n : Nat} (hn : n ≤ 7) {s B : Int} (hs : 0 ≤ s ∧ s < 2 ^ n) (hc : ∀ i : Int, 0 ≤ i → i < n → 0 ≤ spCnt v i s ∧ spCnt v i s ≤ 99) (h : ∀ t, s < t → t < 2 ^ n → 0 ≤ A t ∧ A t + 99 ≤ B) : ∀ (m : Nat) (i g : Int), 0 ≤ i → i + m = n → 0 ≤ g → g ≤ B → (g ≤ spFold v A s m i g ∧ spFold v A s m i g ≤ B) ∧ (∀ k, i ≤ k → k < n → spBit s k = 0 → spCnt v k s + A (spOrr s k) ≤ spFold v A s m i g) ∧ (spFold v A s m i g = g ∨ ∃ k, i ≤ k ∧ k < n ∧ spBit s k = 0 ∧ spCnt v k s + A (spOrr s k) = spFold v A s m i g) := by
  intro m
  induction m with
  | zero => intro i g i0 i1 g0 g1; exact ⟨⟨Int.le_refl _, g1⟩, fun k k0 k1 => by omega, Or.inl rfl⟩
  | succ m ih =>
    intro i g i0 i1 g0 g1
    rw [spFold]
    rcases spBit_b s i with q | q
    · have b := orr_b hn hs (i := i) ⟨i0, by omega⟩ q
      have c := hc i i0 (by omega)
      have a := h _ b.1 b.2
      rw [if_neg (by omega)]
      have mx : g ≤ spMx g (spCnt v i s + A (spOrr s i)) ∧ spCnt v i s + A (spOrr s i) ≤ spMx g (spCnt v i s + A (spOrr s i)) ∧ spMx g (spCnt v i s + A (spOrr s i)) ≤ B ∧ (spMx g (spCnt v i s + A (spOrr s i)) = g ∨ spMx g (spCnt v i s + A (spOrr s i)) = spCnt v i s + A (spOrr s i)) := by
        unfold spMx
        split <;> omega
      obtain ⟨w1, w2, w3⟩ := ih (i + 1) (spMx g (spCnt v i s + A (spOrr s i))) (by omega) (by omega) (by omega) mx.2.2.1
      refine ⟨⟨by omega, w1.2⟩, fun k k0 k1 k2 => ?_, ?_⟩
      · by_cases e : k = i
        · subst e; omega
        · exact w2 k (by omega) k1 k2
      · rcases w3 with w3 | ⟨k, k0, k1, k2, k3⟩
        · rcases mx.2.2.2 with m1 | m1
          · left; omega
          · right; exact ⟨i, by omega, by omega, q, by omega⟩
        · right; exact ⟨k, by omega, k1, k2, k3⟩
    · rw [if_pos q]
      obtain ⟨w1, w2, w3⟩ := ih (i + 1) g (by omega) (by omega) g0 g1
      refine ⟨w1, fun k k0 k1 k2 => ?_, ?_⟩
      · by_cases e : k = i
        · subst e; omega
        · exact w2 k (by omega) k1 k2
      · rcases w3 with w3 | ⟨k, k0, k1, k2, k3⟩
        · left; exact w3
        · right; exact ⟨k, by omega, k1, k2, k3⟩
/-- what a row of best sums is, from a set on -/
def BestF (v A : Int → Int) (n : Nat) (lo : Int) : Prop := ∀ s, lo ≤ s → 0 ≤ s → s < 2 ^ n → A s = spFold v A s n 0 0 ∧ 0 ≤ A s ∧ A s ≤ 99 * (2 ^ n - 1 - s)
theorem BestF_u {v A B : Int → Int} {n : Nat} (hn : n ≤ 7) (ha : BestF v A n 0) (hb : BestF v B n 0) : ∀ (m : Nat) (s : Int), 0 ≤ s → s < 2 ^ n → 2 ^ n - s ≤ m → A s = B s := by
  intro m
  induction m with
  | zero => intro s s0 s1 s2; omega
  | succ m ih =>
    intro s s0 s1 s2
    rw [(ha s s0 s0 s1).1, (hb s s0 s0 s1).1]
    exact (spFold_eq hn ⟨s0, s1⟩ (fun t t0 t1 => ih t (by omega) t1 (by omega)) n 0 0 (by omega) (by omega))
theorem BestF_st {v A : Int → Int} {n : Nat} (hn : n ≤ 7) (hc : ∀ i s : Int, 0 ≤ i → i < n → 0 ≤ spCnt v i s ∧ spCnt v i s ≤ 99) {s : Int} (hs : 0 ≤ s ∧ s < 2 ^ n) (h : BestF v A n (s + 1)) : BestF v (fun t => if t = s then spFold v A s n 0 0 else A t) n s := by
  intro t t0 t1 t2
  by_cases q : t = s
  · subst q
    have b := spFold_b (v := v) (A := A) hn (B := 99 * (2 ^ n - 1 - t)) hs (fun i i0 i1 => hc i t i0 i1) (fun u u0 u1 => by have := (h u (by omega) (by omega) u1).2; omega) n 0 0 (by omega) (by omega) (by omega) (by omega)
    refine ⟨?_, ?_⟩
    · show (if t = t then spFold v A t n 0 0 else A t) = _
      rw [if_pos rfl]
      exact (spFold_eq hn hs (fun u u0 u1 => by show (if u = t then _ else A u) = A u; rw [if_neg (by omega)]) n 0 0 (by omega) (by omega)).symm
    · show 0 ≤ (if t = t then spFold v A t n 0 0 else A t) ∧ (if t = t then spFold v A t n 0 0 else A t) ≤ _
      rw [if_pos rfl]
      exact ⟨by omega, b.1.2⟩
  · have w := h t (by omega) t1 t2
    show (if t = s then _ else A t) = _ ∧ 0 ≤ (if t = s then _ else A t) ∧ (if t = s then _ else A t) ≤ _
    rw [if_neg q]
    refine ⟨?_, w.2⟩
    rw [w.1]
    exact (spFold_eq hn ⟨t1, t2⟩ (fun u u0 u1 => by show (if u = s then _ else A u) = A u; rw [if_neg (by omega)]) n 0 0 (by omega) (by omega)).symm
theorem bit_n {n : Nat} (hn : n ≤ 7) {s i : Int} (hs : 0 ≤ s ∧ s < 2 ^ n) : s < 128 := by
  have : ∀ i : Fin 8, (2 : Int) ^ i.val ≤ 128 := by decide
  have := this ⟨n, by omega⟩
  simp only at this
  omega
theorem pw7 {n : Nat} (hn : n ≤ 7) : (1 : Int) ≤ 2 ^ n ∧ (2 : Int) ^ n ≤ 128 := by
  have : ∀ i : Fin 8, (1 : Int) ≤ 2 ^ i.val ∧ (2 : Int) ^ i.val ≤ 128 := by decide
  exact this ⟨n, by omega⟩
/-- the class weighs one set -/
theorem c_weigh43 (d : Nat) {z : zH} (hz : zRR z) {v : Int → Int} (hT : PSteps 17 z v) {s : Int} (hs : 0 ≤ s ∧ s < 2 ^ (v 11).toNat) (hA : BestF v (z 65) (v 11).toNat (s + 1)) : ∀ (m : Nat) (i g : Int), 0 ≤ i → i + m = v 11 → (0 ≤ g ∧ g ≤ 99 * (2 ^ (v 11).toNat - 1 - s)) → ∀ n, r_X1_weigh (d + 3) (n + m + 1) 43 [some (xR 17 64), some (xR 23 17), none, some (xI (zI s)), some (xI (zI (spS v s))), some (xI (zI g)), some (xI (zI i))] [] (hI z) = r_X1_weigh (d + 3) n 25 [some (xR 17 64), some (xR 23 17), none, some (xI (zI (s - 1))), none, none, none] [] (hI (zup z 65 s (spFold v (z 65) s m i g))) := by
  have h3 : z 17 3 = v 11 := hT.1.2.2.1
  have h4 := hT.1.2.2.2.1
  have hn7 : (v 11).toNat ≤ 7 := by omega
  have s128 := bit_n hn7 (i := 0) hs
  have p7 := pw7 hn7
  have sr : zR s := zR_s (by omega)
  have h0r : zR 0 := zR_s (by omega)
  have bs : ¬ (zI s < zI 0 ∨ 128 ≤ (zI s).toNatClampNeg) := by rw [zI_lt sr h0r, zI_nat sr]; omega
  intro m
  induction m with
  | zero =>
    intro i g i0 i1 hg n
    rw [Nat.add_zero, l_X1_weigh_43, spFold]
    simp only [hI_fs, h3, zLit, lenX_s, zI_nat sr, zst hs.1, zI_neg, zI_add]
    rw [if_neg (by rw [zI_lt (zR_s (by omega)) (zR_s (by omega))]; omega)]
    rw [if_neg (by rw [zI_lt sr h0r]; omega), show s + -1 = s - 1 by omega]
  | succ m ih =>
    intro i g i0 i1 hg n
    have ih := fun g hg => ih (i + 1) g (by omega) (by omega) hg n
    rw [← Nat.add_assoc, l_X1_weigh_43, spFold]
    simp only [hI_fs, h3, zLit, bit_I (show 0 ≤ s ∧ s < 256 by omega) (show 0 ≤ i ∧ i < 8 by omega), orr_I (show 0 ≤ s ∧ s < 128 by omega) (show 0 ≤ i ∧ i < 7 by omega), zI_add]
    rw [if_pos (by rw [zI_lt (zR_s (by omega)) (zR_s (by omega))]; omega), if_pos (by rw [zI_lt (zR_s (by omega)) (zR_s (by omega))]; omega)]
    rcases spBit_b s i with q | q
    · have b := orr_b hn7 hs (i := i) ⟨i0, by omega⟩ q
      have cc := fun d => c_counting d hz hT (i := i) (s := s) ⟨i0, by omega⟩
      have cb := spCnt_b hT (i := i) (s := s) ⟨i0, by omega⟩
      have ab := (hA _ (by omega) (by omega) b.2).2
      have oR : zR (spOrr s i) := zR_s (by omega)
      have bo : ¬ (zI (spOrr s i) < zI 0 ∨ lenX 65 ≤ (zI (spOrr s i)).toNatClampNeg) := by rw [zI_lt oR h0r, zI_nat oR]; simp only [lenX_s]; omega
      have eo : hI z 65 (zI (spOrr s i)).toNatClampNeg = zI (z 65 (spOrr s i)) := by rw [zI_nat oR, zld (by omega)]
      have mx : (if zI g < zI (spCnt v i s + z 65 (spOrr s i)) then zI (spCnt v i s + z 65 (spOrr s i)) else zI g) = zI (spMx g (spCnt v i s + z 65 (spOrr s i))) := by rw [zI_ilt (zR_s (by omega)) (zR_s (by omega))]; rfl
      rw [if_neg (by rw [q]; decide), if_neg (by omega)]
      simp only [cc, xbd_n, if_neg bo, eo, zI_add, mx]
      exact ih _ (by unfold spMx; split <;> omega)
    · rw [if_pos (by rw [q]), if_pos q]
      exact ih _ hg
theorem c_weigh25 (d : Nat) {v : Int → Int} {z0 : zH} (hT0 : PSteps 17 z0 v) : ∀ (m : Nat) (s : Int) (z : zH), zRR z → PSteps 17 z v → s + 1 = m → s < 2 ^ (v 11).toNat → BestF v (z 65) (v 11).toNat (s + 1) → ∀ n, 9 * m < n → xw (r_X1_weigh (d + 3) n 25 [some (xR 17 64), some (xR 23 17), none, some (xI (zI s)), none, none, none] [] (hI z)) (fun _ z' => BestF v (z' 65) (v 11).toNat 0 ∧ fr [65] z z') := by
  have h4 := hT0.1.2.2.2.1
  have hn7 : (v 11).toNat ≤ 7 := by omega
  have p7 := pw7 hn7
  intro m
  induction m with
  | zero =>
    intro s z hz hT hm hs hA n hn
    obtain ⟨n, rfl⟩ := Nat.exists_eq_succ_of_ne_zero (show n ≠ 0 by omega)
    have e : s = -1 := by omega
    subst e
    rw [l_X1_weigh_25]
    simp only [zLit]
    rw [if_pos (by rw [zI_lt (zR_s (by omega)) (zR_s (by omega))]; omega)]
    exact xw_ret (zR_s (by omega)) hz ⟨hA, fr_rf _ _⟩
  | succ m ih =>
    intro s z hz hT hm hs hA n hn
    have s128 := bit_n hn7 (i := 0) (s := s) ⟨by omega, hs⟩
    obtain ⟨n, rfl⟩ : ∃ k, n = k + (v 11).toNat + 1 + 1 := ⟨n - (v 11).toNat - 2, by omega⟩
    have cs := fun d => c_stepSum d hz hT (s := s) ⟨by omega, by omega⟩
    have c43 := c_weigh43 d hz hT (s := s) ⟨by omega, hs⟩ hA (v 11).toNat 0 0 (by omega) (by omega) ⟨by omega, by omega⟩ n
    have hc : ∀ i s : Int, 0 ≤ i → i < ((v 11).toNat : Nat) → 0 ≤ spCnt v i s ∧ spCnt v i s ≤ 99 := fun i s i0 i1 => spCnt_b hT (s := s) ⟨i0, by omega⟩
    have st := BestF_st hn7 hc (s := s) ⟨by omega, hs⟩ hA
    obtain ⟨Z, dZ⟩ : ∃ Z, Z = zup z 65 s (spFold v (z 65) s (v 11).toNat 0 0) := ⟨_, rfl⟩
    rw [← dZ] at c43
    have eZ : Z 65 = fun t => if t = s then spFold v (z 65) s (v 11).toNat 0 0 else z 65 t := by
      funext t
      rw [dZ, zup_at]
      simp only [true_and]
    rw [← eZ] at st
    have bb := (st s (Int.le_refl _) (by omega) hs).2
    have fv : spFold v (z 65) s (v 11).toNat 0 0 = Z 65 s := by rw [eZ]; simp
    have yZ : zRR Z := by rw [dZ]; exact zRR_up hz _ _ (by rw [fv]; exact zR_s (by omega))
    have fZ : fr [65] z Z := by rw [dZ]; exact fr_up (fr_rf _ _) _ _ rfl
    rw [l_X1_weigh_25]
    simp only [zLit]
    rw [if_neg (by rw [zI_lt (zR_s (by omega)) (zR_s (by omega))]; omega)]
    simp only [cs, xbd_n]
    rw [c43]
    refine xw_m (ih (s - 1) Z yZ (PSteps_t hT (fZ 17 rfl) (fZ 18 rfl) (fun _ _ => rfl)) (by omega) (by omega) (by rw [show s - 1 + 1 = s by omega]; exact st) n (by omega)) ?_
    intro r z' _ _ ⟨e1, e2⟩
    exact ⟨e1, fr_tr fZ e2 rfl⟩
theorem spFold_all {v A : Int → Int} {s : Int} : ∀ (m : Nat) (i g : Int), (∀ k, i ≤ k → k < i + m → spBit s k = 1) → spFold v A s m i g = g := by
  intro m
  induction m with
  | zero => intro i g _; rfl
  | succ m ih =>
    intro i g h
    rw [spFold, if_pos (h i (by omega) (by omega))]
    exact ih (i + 1) g (fun k k0 k1 => h k (by omega) (by omega))
theorem allL : ∀ n : Fin 8, ∀ i : Fin 7, i.val < n.val → spBit (2 ^ n.val - 1) (i.val : Int) = 1 := by decide +kernel
theorem all_bit {n : Nat} (hn : n ≤ 7) {k : Int} (k0 : 0 ≤ k) (k1 : k < n) : spBit (2 ^ n - 1) k = 1 := by
  have h := allL ⟨n, by omega⟩ ⟨k.toNat, by omega⟩
  simp only [Int.toNat_of_nonneg k0] at h
  exact h (by omega)
theorem BestF_top {v A : Int → Int} {n : Nat} (hn : n ≤ 7) (h : A (2 ^ n - 1) = 0) : BestF v A n (2 ^ n - 1) := by
  intro s s0 s1 s2
  have p7 := pw7 hn
  have e : s = 2 ^ n - 1 := by omega
  subst e
  rw [h, spFold_all n 0 0 (fun k k0 k1 => all_bit hn k0 (by omega))]
  exact ⟨rfl, by omega, by omega⟩
theorem c_weigh (d : Nat) {z : zH} (hz : zRR z) {v : Int → Int} (hT : PSteps 17 z v) : xw (cM (d + 4) 10 [xR 17 64, xR 23 17] (hI z)) (fun _ z' => BestF v (z' 65) (v 11).toNat 0 ∧ fr [65] z z') := by
  have h3 : z 17 3 = v 11 := hT.1.2.2.1
  have h4 := hT.1.2.2.2.1
  have hn7 : (v 11).toNat ≤ 7 := by omega
  have p7 := pw7 hn7
  have h0r : zR 0 := zR_s (by omega)
  have ar : zR (2 ^ (v 11).toNat - 1) := zR_s (by omega)
  have mn : (if zI 7 < zI (v 11) then zI 7 else zI (v 11)) = zI (v 11) := by rw [if_neg (by rw [zI_lt (zR_s (by omega)) (zR_s (by omega))]; omega)]
  rw [e_X1_weigh, show xF = 999999 + 1 from rfl, l_X1_weigh_0]
  simp only [hI_fs, h3, zLit, mn, pow_I (show 0 ≤ v 11 ∧ v 11 ≤ 8 by omega), zI_sub, zI_nat ar, zst (show (0 : Int) ≤ 2 ^ (v 11).toNat - 1 by omega), lenX_s]
  rw [if_neg (by rw [zI_lt ar h0r]; omega)]
  obtain ⟨Z, dZ⟩ : ∃ Z, Z = zup z 65 (2 ^ (v 11).toNat - 1) 0 := ⟨_, rfl⟩
  rw [← dZ]
  have yZ : zRR Z := by rw [dZ]; exact zRR_up hz _ _ h0r
  have fZ : fr [65] z Z := by rw [dZ]; exact fr_up (fr_rf _ _) _ _ rfl
  have tp := BestF_top (v := v) (A := Z 65) hn7 (by rw [dZ, zup_at, if_pos ⟨rfl, rfl⟩])
  refine xw_m (c_weigh25 d hT (2 ^ (v 11).toNat - 1 : Int).toNat (2 ^ (v 11).toNat - 1 - 1) Z yZ (PSteps_t hT (fZ 17 rfl) (fZ 18 rfl) (fun _ _ => rfl)) (by omega) (by omega) (by rw [show (2 : Int) ^ (v 11).toNat - 1 - 1 + 1 = 2 ^ (v 11).toNat - 1 by omega]; exact tp) 999999 (by omega)) ?_
  intro r z' _ _ ⟨e1, e2⟩
  exact ⟨e1, fr_tr fZ e2 rfl⟩
