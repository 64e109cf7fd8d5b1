/-! PURE, part 33: worth and order -/
theorem m_find27 (d : Nat) {v : Int → Int} {z0 : zH} (hT : PSteps 17 z0 v) {s : Int} (hs : 0 ≤ s ∧ s < 2 ^ (v 11).toNat) {A : Int → Int} (hA : BestF v A (v 11).toNat (s + 1)) : ∀ (m : Nat) (i g : Int) (z : zH), zRR z → z 101 = v → (∀ t, z 116 t = if t = s then g else A t) → 0 ≤ i → i + m = v 11 → (0 ≤ g ∧ g ≤ 99 * (2 ^ (v 11).toNat - 1 - s)) → ∀ n, xw (r_X12_findOrder (d + 2) (n + m + 1) 27 [some (xR 28 100), none, some (xI (zI s)), some (xI (zI i))] [] (hI z)) = fun Q => xw (r_X12_findOrder (d + 2) n 14 [some (xR 28 100), none, some (xI (zI (s - 1))), none] [] (hI (fun p q => if p = 116 ∧ q = s then spFold v A s m i g else z p q))) Q := by
  have h4 := hT.1.2.2.2.1
  have hn7 : (v 11).toNat ≤ 7 := by omega
  have s128 := bit_n hn7 (i := 0) hs
  have p7 := pw7 hn7
  have sr : zR s := zR_s (by omega)
  have h0r : zR 0 := zR_s (by omega)
  have h11 : zR 11 := zR_s (by omega)
  have bs : ¬ (zI s < zI 0 ∨ 128 ≤ (zI s).toNatClampNeg) := by rw [zI_lt sr h0r, zI_nat sr]; omega
  intro m
  induction m with
  | zero =>
    intro i g z hz hv hB i0 i1 hg n
    funext Q
    have e : (fun p q => if p = 116 ∧ q = s then spFold v A s 0 i g else z p q) = z := by
      funext p q
      split
      · rename_i w
        rw [w.1, w.2, hB s, if_pos rfl, spFold]
      · rfl
    rw [e, Nat.add_zero, l_X12_findOrder_27]
    simp only [zLit, lenX_s, zI_nat h11, zld (show (0 : Int) ≤ 11 by omega), hv, zI_neg, zI_add]
    rw [if_neg (by rw [zI_lt h11 h0r]; omega), if_neg (by rw [zI_lt (zR_s (by omega)) (zR_s (by omega))]; omega), show s + -1 = s - 1 by omega]
  | succ m ih =>
    intro i g z hz hv hB i0 i1 hg n
    funext Q
    rw [← Nat.add_assoc, l_X12_findOrder_27, spFold]
    simp only [zLit, lenX_s, zI_nat h11, zld (show (0 : Int) ≤ 11 by omega), hv, bit_I (show 0 ≤ s ∧ s < 256 by omega) (show 0 ≤ i ∧ i < 8 by omega), orr_I (show 0 ≤ s ∧ s < 128 by omega) (show 0 ≤ i ∧ i < 7 by omega), zI_add]
    rw [if_neg (by rw [zI_lt h11 h0r]; omega), if_pos (by rw [zI_lt (zR_s (by omega)) (zR_s (by omega))]; omega)]
    rcases spBit_b s i with q | q
    · have b := orr_b hn7 hs (i := i) ⟨i0, by omega⟩ q
      have cc := fun d => m_counts d hz (z0 := z0) (by rw [hv]; exact hT) (i := i) (s := s) (by rw [hv]; omega) ⟨by omega, by omega⟩
      rw [hv] at cc
      have cb := spCnt_b hT (i := i) (s := s) ⟨i0, by omega⟩
      have ab := (hA _ (by omega) (by omega) b.2).2
      have oR : zR (spOrr s i) := zR_s (by omega)
      have bo : ¬ (zI (spOrr s i) < zI 0 ∨ 128 ≤ (zI (spOrr s i)).toNatClampNeg) := by rw [zI_lt oR h0r, zI_nat oR]; omega
      have eo : hI z 116 (zI (spOrr s i)).toNatClampNeg = zI (A (spOrr s i)) := by rw [zI_nat oR, zld (by omega), hB, if_neg (by omega)]
      have es : hI z 116 (zI s).toNatClampNeg = zI g := by rw [zI_nat sr, zld (by omega), hB, if_pos rfl]
      have mx : (if zI g < zI (spCnt v i s + A (spOrr s i)) then zI (spCnt v i s + A (spOrr s i)) else zI g) = zI (spMx g (spCnt v i s + A (spOrr s i))) := by rw [zI_ilt (zR_s (by omega)) (zR_s (by omega))]; rfl
      have qe : ¬ spBit s i = 1 := by omega
      rw [if_pos (by rw [q]), if_neg bs]
      simp only [if_neg qe]
      simp only [cc, xbd_n, if_neg bo, if_neg bs, eo, es, zI_add, mx]
      have gb : 0 ≤ spMx g (spCnt v i s + A (spOrr s i)) ∧ spMx g (spCnt v i s + A (spOrr s i)) ≤ 99 * (2 ^ (v 11).toNat - 1 - s) := by unfold spMx; split <;> omega
      generalize spMx g (spCnt v i s + A (spOrr s i)) = g2 at *
      have est : xup (hI z) 116 (zI s).toNatClampNeg (zI g2) = hI (zup z 116 s g2) := by rw [zI_nat sr, zst hs.1]
      rw [est]
      have hx := ih (i + 1) g2 (zup z 116 s g2) (zRR_up hz _ _ (zR_s (by omega))) (by rw [zup_ne _ _ _ (by decide)]; exact hv) (fun t => by
        rw [zup_at, hB]
        simp only [true_and]
        by_cases e : t = s
        · rw [if_pos e, if_pos e]
        · rw [if_neg e, if_neg e, if_neg e]) (by omega) (by omega) gb n
      rw [hx]
      have e : (fun p q => if p = 116 ∧ q = s then spFold v A s m (i + 1) g2 else zup z 116 s g2 p q) = (fun p q => if p = 116 ∧ q = s then spFold v A s m (i + 1) g2 else z p q) := by
        funext p q
        by_cases w : p = 116 ∧ q = s
        · rw [if_pos w, if_pos w]
        · rw [if_neg w, if_neg w, zup_at, if_neg w]
      rw [e]
    · rw [if_neg (by rw [q]; decide), if_pos q]
      have hx := ih (i + 1) g z hz hv hB (by omega) (by omega) hg n
      rw [hx]
theorem m_find14 (d : Nat) {v : Int → Int} {z0 : zH} (hT : PSteps 17 z0 v) : ∀ (m : Nat) (s : Int) (z : zH), zRR z → z 101 = v → s + 1 = m → s < 2 ^ (v 11).toNat → BestF v (z 116) (v 11).toNat (s + 1) → ∀ n, 10 * m < n → xw (r_X12_findOrder (d + 2) n 14 [some (xR 28 100), none, some (xI (zI s)), none] [] (hI z)) (fun _ z' => BestF v (z' 116) (v 11).toNat 0 ∧ fr [116] z z') := by
  have h4 := hT.1.2.2.2.1
  have hn7 : (v 11).toNat ≤ 7 := by omega
  have p7 := pw7 hn7
  have h0r : zR 0 := zR_s (by omega)
  intro m
  induction m with
  | zero =>
    intro s z hz hv hm hs hA n hn
    obtain ⟨n, rfl⟩ := Nat.exists_eq_succ_of_ne_zero (show n ≠ 0 by omega)
    have e : s = -1 := by omega
    subst e
    rw [l_X12_findOrder_14]
    simp only [zLit]
    rw [if_pos (by rw [zI_lt (zR_s (by omega)) (zR_s (by omega))]; omega)]
    exact xw_ret (zR_s (by omega)) hz ⟨hA, fr_rf _ _⟩
  | succ m ih =>
    intro s z hz hv hm hs hA n hn
    have s128 := bit_n hn7 (i := 0) (s := s) ⟨by omega, hs⟩
    have sr : zR s := zR_s (by omega)
    obtain ⟨n, rfl⟩ : ∃ k, n = k + (v 11).toNat + 1 + 1 := ⟨n - (v 11).toNat - 2, by omega⟩
    have bs : ¬ (zI s < zI 0 ∨ 128 ≤ (zI s).toNatClampNeg) := by rw [zI_lt sr h0r, zI_nat sr]; omega
    rw [l_X12_findOrder_14]
    simp only [zLit, lenX_s]
    rw [if_neg (by rw [zI_lt sr h0r]; omega), if_neg bs, zI_nat sr, zst (show 0 ≤ s by omega)]
    have c27 := m_find27 d hT (s := s) ⟨by omega, hs⟩ hA (v 11).toNat 0 0 (zup z 116 s 0) (zRR_up hz _ _ h0r) (by rw [zup_ne _ _ _ (by decide)]; exact hv) (fun t => by rw [zup_at]; simp only [true_and]) (by omega) (by omega) ⟨by omega, by omega⟩ n
    rw [c27]
    have hc : ∀ i s : Int, 0 ≤ i → i < ((v 11).toNat : Nat) → 0 ≤ spCnt v i s ∧ spCnt v i s ≤ 99 := fun i s i0 i1 => spCnt_b hT (s := s) ⟨i0, by omega⟩
    have st := BestF_st hn7 hc (s := s) ⟨by omega, hs⟩ hA
    obtain ⟨Z, dZ⟩ : ∃ Z : zH, Z = fun p q => if p = 116 ∧ q = s then spFold v (z 116) s (v 11).toNat 0 0 else zup z 116 s 0 p q := ⟨_, rfl⟩
    rw [← dZ]
    have eZ : Z 116 = fun t => if t = s then spFold v (z 116) s (v 11).toNat 0 0 else z 116 t := by
      funext t
      rw [dZ]
      simp only [true_and, zup_at]
      by_cases e : t = s
      · rw [if_pos e, if_pos e]
      · rw [if_neg e, if_neg e, if_neg e]
    rw [← eZ] at st
    have bb := (st s (Int.le_refl _) (by omega) hs).2
    have fv : spFold v (z 116) s (v 11).toNat 0 0 = Z 116 s := by rw [eZ]; simp
    have fZ : fr [116] z Z := by
      intro o ho
      have : o ≠ 116 := by intro e; subst e; cases ho
      funext q
      rw [dZ]
      show (if o = 116 ∧ q = s then _ else zup z 116 s 0 o q) = z o q
      rw [if_neg (fun w => this w.1), zup_at, if_neg (fun w => this w.1)]
    have yZ : zRR Z := by
      intro o q
      by_cases e : o = 116
      · subst e
        rw [eZ]
        show zR (if q = s then _ else z 116 q)
        split
        · rw [fv]; exact zR_s (by omega)
        · exact hz _ _
      · rw [fZ o (by
          cases w : [116].elem o with
          | false => rfl
          | true => have w := List.elem_iff.mp w; simp only [List.mem_cons, List.not_mem_nil, or_false] at w; exact absurd w e)]
        exact hz o q
    refine xw_m (ih (s - 1) Z yZ (by rw [fZ 101 rfl]; exact hv) (by omega) (by omega) (by rw [show s - 1 + 1 = s by omega]; exact st) n (by omega)) ?_
    intro r z' _ _ ⟨e1, e2⟩
    exact ⟨e1, fr_tr fZ e2 rfl⟩
theorem m_find (d : Nat) {z : zH} (hz : zRR z) {z0 : zH} (hT : PSteps 17 z0 (z 101)) : xw (cM (d + 3) 234 [xR 28 100] (hI z)) (fun _ z' => BestF (z 101) (z' 116) (z 101 11).toNat 0 ∧ fr [116] z z') := by
  have h4 := hT.1.2.2.2.1
  have hn7 : (z 101 11).toNat ≤ 7 := by omega
  have p7 := pw7 hn7
  have h0r : zR 0 := zR_s (by omega)
  have h11 : zR 11 := zR_s (by omega)
  rw [e_X12_findOrder, show xF = 999999 + 1 from rfl, l_X12_findOrder_0]
  simp only [zLit, lenX_s, zI_nat h11, zld (show (0 : Int) ≤ 11 by omega), pow_I (show 0 ≤ z 101 11 ∧ z 101 11 ≤ 8 by omega), zI_sub]
  rw [if_neg (by rw [zI_lt h11 h0r]; omega)]
  exact m_find14 d hT (2 ^ (z 101 11).toNat : Int).toNat (2 ^ (z 101 11).toNat - 1) z hz rfl (by omega) (by omega) (fun s s0 s1 s2 => by omega) 999999 (by omega)
/-- the step that goes on from a set -/
def spNext (v A : Int → Int) (s : Int) : Nat → Int → Int
  | 0, _ => -1
  | m + 1, i => if spBit s i = 0 ∧ spCnt v i s + A (spOrr s i) = A s then i else spNext v A s m (i + 1)
theorem spNext_b {v A : Int → Int} {s : Int} : ∀ (m : Nat) (i : Int), 0 ≤ i → spNext v A s m i = -1 ∨ (i ≤ spNext v A s m i ∧ spNext v A s m i < i + m ∧ spBit s (spNext v A s m i) = 0) := by
  intro m
  induction m with
  | zero => intro i _; left; rfl
  | succ m ih =>
    intro i i0
    rw [spNext]
    split
    · rename_i q; right; exact ⟨by omega, by omega, q.1⟩
    · rcases ih (i + 1) (by omega) with w | w
      · left; exact w
      · right; exact ⟨by omega, by omega, w.2.2⟩
theorem spNext_ex {v A : Int → Int} {s k : Int} (hb : spBit s k = 0) (hk : spCnt v k s + A (spOrr s k) = A s) : ∀ (m : Nat) (i : Int), i ≤ k → k < i + m → 0 ≤ i → 0 ≤ spNext v A s m i := by
  intro m
  induction m with
  | zero => intro i h1 h2; omega
  | succ m ih =>
    intro i h1 h2 i0
    rw [spNext]
    split
    · omega
    · rename_i q
      by_cases e : i = k
      · subst e; exact absurd ⟨hb, hk⟩ q
      · exact ih (i + 1) (by omega) (by omega) (by omega)
theorem next_ok {v A : Int → Int} {n : Nat} (hn : n ≤ 7) (hc : ∀ i s : Int, 0 ≤ i → i < n → 0 ≤ spCnt v i s ∧ spCnt v i s ≤ 99) (hA : BestF v A n 0) {s : Int} (hs : 0 ≤ s ∧ s < 2 ^ n) (hp : spPop n s < n) : 0 ≤ spNext v A s n 0 := by
  have hf := hA s hs.1 hs.1 hs.2
  have b := spFold_b (v := v) (A := A) hn (B := 99 * (2 ^ n - 1 - s)) hs (fun i i0 i1 => hc i s i0 i1) (fun u u0 u1 => by have := (hA u (by omega) (by omega) u1).2; omega) n 0 0 (by omega) (by omega) (by omega) (by omega)
  rw [← hf.1] at b
  obtain ⟨k, k0, k1, k2⟩ := pop_ex n 0 0 (show spSum (spBit s) n 0 0 < 0 + n by have : spPop n s = spSum (spBit s) n 0 0 := rfl; omega)
  have ob := orr_b hn hs (i := k) ⟨k0, by omega⟩ k2
  have ck := hc k s k0 (by omega)
  have ak := (hA _ (by omega) (by omega) ob.2).2
  rcases b.2.2 with w | ⟨j, j0, j1, j2, j3⟩
  · have := b.2.1 k k0 (by omega) k2
    exact spNext_ex k2 (by omega) n 0 (by omega) (by omega) (by omega)
  · exact spNext_ex j2 j3 n 0 (by omega) (by omega) (by omega)
theorem c_first10 (d : Nat) {z : zH} (hz : zRR z) {v : Int → Int} (hT : PSteps 17 z v) {s : Int} (hs : 0 ≤ s ∧ s < 2 ^ (v 11).toNat) (hA : BestF v (z 65) (v 11).toNat 0) : ∀ (m : Nat) (i : Int), 0 ≤ i → i + m = v 11 → ∀ n, m < n → r_X1_firstBest (d + 3) n 25 [some (xR 17 64), some (xR 23 17), some (xI (zI s)), some (xI (zI (spS v s))), some (xI (zI i))] [] (hI z) = some (zI (spNext v (z 65) s m i), hI z) := by
  have h3 : z 17 3 = v 11 := hT.1.2.2.1
  have h4 := hT.1.2.2.2.1
  have hn7 : (v 11).toNat ≤ 7 := by omega
  have s128 := bit_n hn7 (i := 0) hs
  have p7 := pw7 hn7
  have sr : zR s := zR_s (by omega)
  have h0r : zR 0 := zR_s (by omega)
  have bs : ¬ (zI s < zI 0 ∨ lenX 65 ≤ (zI s).toNatClampNeg) := by rw [zI_lt sr h0r, zI_nat sr]; simp only [lenX_s]; omega
  have es : hI z 65 (zI s).toNatClampNeg = zI (z 65 s) := by rw [zI_nat sr, zld hs.1]
  have as := (hA s hs.1 hs.1 hs.2).2
  intro m
  induction m with
  | zero =>
    intro i i0 i1 n hn
    obtain ⟨n, rfl⟩ := Nat.exists_eq_succ_of_ne_zero (show n ≠ 0 by omega)
    rw [l_X1_firstBest_25]
    simp only [hI_fs, h3, zLit, zI_neg]
    rw [if_neg (by rw [zI_lt (zR_s (by omega)) (zR_s (by omega))]; omega)]
    rfl
  | succ m ih =>
    intro i i0 i1 n hn
    obtain ⟨n, rfl⟩ := Nat.exists_eq_succ_of_ne_zero (show n ≠ 0 by omega)
    have ih := ih (i + 1) (by omega) (by omega) n (by omega)
    rw [l_X1_firstBest_25, spNext]
    simp only [hI_fs, h3, zLit, bit_I (show 0 ≤ s ∧ s < 256 by omega) (show 0 ≤ i ∧ i < 8 by omega), orr_I (show 0 ≤ s ∧ s < 128 by omega) (show 0 ≤ i ∧ i < 7 by omega), zI_add]
    rw [if_pos (by rw [zI_lt (zR_s (by omega)) (zR_s (by omega))]; omega), if_pos (by rw [zI_lt (zR_s (by omega)) (zR_s (by omega))]; omega)]
    rcases spBit_b s i with q | q
    · have b := orr_b hn7 hs (i := i) ⟨i0, by omega⟩ q
      have cc := fun d => c_counting d hz hT (i := i) (s := s) ⟨i0, by omega⟩
      have cb := spCnt_b hT (i := i) (s := s) ⟨i0, by omega⟩
      have ab := (hA _ (by omega) (by omega) b.2).2
      have oR : zR (spOrr s i) := zR_s (by omega)
      have bo : ¬ (zI (spOrr s i) < zI 0 ∨ lenX 65 ≤ (zI (spOrr s i)).toNatClampNeg) := by rw [zI_lt oR h0r, zI_nat oR]; simp only [lenX_s]; omega
      have eo : hI z 65 (zI (spOrr s i)).toNatClampNeg = zI (z 65 (spOrr s i)) := by rw [zI_nat oR, zld (by omega)]
      rw [if_neg (by rw [q]; decide)]
      simp only [cc, xbd_n, if_neg bo, if_neg bs, eo, es, zI_add]
      by_cases w : spCnt v i s + z 65 (spOrr s i) = z 65 s
      · rw [if_pos (by rw [w]), if_pos ⟨q, w⟩]
      · rw [if_neg (by rw [zI_eq (zR_s (by omega)) (zR_s (by omega))]; exact w), if_neg (fun x => w x.2)]
        exact ih
    · rw [if_pos (by rw [q]), if_neg (by omega)]
      exact ih
theorem c_first (d : Nat) {z : zH} (hz : zRR z) {v : Int → Int} (hT : PSteps 17 z v) {s : Int} (hs : 0 ≤ s ∧ s < 2 ^ (v 11).toNat) (hA : BestF v (z 65) (v 11).toNat 0) : cM (d + 4) 11 [xR 17 64, xR 23 17, xI (zI s)] (hI z) = some (zI (spNext v (z 65) s (v 11).toNat 0), hI z) := by
  have h4 := hT.1.2.2.2.1
  have hn7 : (v 11).toNat ≤ 7 := by omega
  have s128 := bit_n hn7 (i := 0) hs
  have cs := fun d => c_stepSum d hz hT (s := s) ⟨by omega, by omega⟩
  rw [e_X1_firstBest, show xF = 999999 + 1 from rfl, l_X1_firstBest_0]
  simp only [zLit, lenX_s, zI_nI]
  rw [if_neg (by rw [zI_lt (zR_s (by omega)) (zR_s (by omega))]; omega), if_pos (by rw [zI_lt (zR_s (by omega)) (zR_s (by omega))]; omega)]
  simp only [cs, xbd_n]
  exact c_first10 d hz hT hs hA (v 11).toNat 0 (by omega) (by omega) 999999 (by omega)
theorem m_follows_l (d : Nat) {z : zH} (hz : zRR z) {z0 : zH} (hT : PSteps 17 z0 (z 101)) {s : Int} (hs : 0 ≤ s ∧ s < 2 ^ (z 101 11).toNat) (hA : BestF (z 101) (z 116) (z 101 11).toNat 0) : ∀ (m : Nat) (i : Int), 0 ≤ i → i + m = z 101 11 → 0 ≤ spNext (z 101) (z 116) s m i → ∀ n, m < n → r_X12_follows (d + 1) n 2 [some (xR 28 100), some (xI (zI s)), some (xI (zI i))] [] (hI z) = some (zI (spNext (z 101) (z 116) s m i), hI z) := by
  have h4 := hT.1.2.2.2.1
  have hn7 : (z 101 11).toNat ≤ 7 := by omega
  have s128 := bit_n hn7 (i := 0) hs
  have p7 := pw7 hn7
  have sr : zR s := zR_s (by omega)
  have h0r : zR 0 := zR_s (by omega)
  have bs : ¬ (zI s < zI 0 ∨ lenX 116 ≤ (zI s).toNatClampNeg) := by rw [zI_lt sr h0r, zI_nat sr]; simp only [lenX_s]; omega
  have es : hI z 116 (zI s).toNatClampNeg = zI (z 116 s) := by rw [zI_nat sr, zld hs.1]
  have as := (hA s hs.1 hs.1 hs.2)
  have hc : ∀ i s : Int, 0 ≤ i → i < ((z 101 11).toNat : Nat) → 0 ≤ spCnt (z 101) i s ∧ spCnt (z 101) i s ≤ 99 := fun i s i0 i1 => spCnt_b hT (s := s) ⟨i0, by omega⟩
  have fb := spFold_b (v := z 101) (A := z 116) hn7 (B := 99 * (2 ^ (z 101 11).toNat - 1 - s)) hs (fun i i0 i1 => hc i s i0 i1) (fun u u0 u1 => by have := (hA u (by omega) (by omega) u1).2; omega) (z 101 11).toNat 0 0 (by omega) (by omega) (by omega) (by omega)
  rw [← as.1] at fb
  have fle := fb.2.1
  clear fb
  intro m
  induction m with
  | zero => intro i i0 i1 hp; exact absurd hp (by rw [spNext]; omega)
  | succ m ih =>
    intro i i0 i1 hp n hn
    obtain ⟨n, rfl⟩ := Nat.exists_eq_succ_of_ne_zero (show n ≠ 0 by omega)
    have ih := fun hp => ih (i + 1) (by omega) (by omega) hp n (by omega)
    rw [l_X12_follows_2, spNext]
    simp only [zLit, bit_I (show 0 ≤ s ∧ s < 256 by omega) (show 0 ≤ i ∧ i < 8 by omega), orr_I (show 0 ≤ s ∧ s < 128 by omega) (show 0 ≤ i ∧ i < 7 by omega), zI_add]
    rcases spBit_b s i with q | q
    · have b := orr_b hn7 hs (i := i) ⟨i0, by omega⟩ q
      have cc := fun d => m_counts d hz hT (i := i) (s := s) ⟨i0, by omega⟩ ⟨by omega, by omega⟩
      have cb := spCnt_b hT (i := i) (s := s) ⟨i0, by omega⟩
      have ab := (hA _ (by omega) (by omega) b.2).2
      have le := fle i i0 (by omega) q
      have oR : zR (spOrr s i) := zR_s (by omega)
      have bo : ¬ (zI (spOrr s i) < zI 0 ∨ lenX 116 ≤ (zI (spOrr s i)).toNatClampNeg) := by rw [zI_lt oR h0r, zI_nat oR]; simp only [lenX_s]; omega
      have eo : hI z 116 (zI (spOrr s i)).toNatClampNeg = zI (z 116 (spOrr s i)) := by rw [zI_nat oR, zld (by omega)]
      rw [if_neg (by rw [q]; decide)]
      simp only [cc, xbd_n, if_neg bo, if_neg bs, eo, es, zI_add]
      by_cases w : spCnt (z 101) i s + z 116 (spOrr s i) = z 116 s
      · rw [if_neg (by rw [zI_lt (zR_s (by omega)) (zR_s (by omega))]; omega), if_pos ⟨q, w⟩]
      · rw [spNext, if_neg (fun x => w x.2)] at hp
        rw [if_pos (by rw [zI_lt (zR_s (by omega)) (zR_s (by omega))]; omega), if_neg (fun x => w x.2)]
        exact ih hp
    · have qn : ¬ (spBit s i = 0 ∧ spCnt (z 101) i s + z 116 (spOrr s i) = z 116 s) := fun x => by have := x.1; omega
      rw [spNext, if_neg qn] at hp
      rw [if_pos (by rw [q]), if_neg qn]
      exact ih hp
theorem m_follows (d : Nat) {z : zH} (hz : zRR z) {z0 : zH} (hT : PSteps 17 z0 (z 101)) {s : Int} (hs : 0 ≤ s ∧ s < 2 ^ (z 101 11).toNat) (hA : BestF (z 101) (z 116) (z 101 11).toNat 0) (hp : spPop (z 101 11).toNat s < (z 101 11).toNat) : cM (d + 2) 235 [xR 28 100, xI (zI s)] (hI z) = some (zI (spNext (z 101) (z 116) s (z 101 11).toNat 0), hI z) := by
  have h4 := hT.1.2.2.2.1
  have hc : ∀ i s : Int, 0 ≤ i → i < ((z 101 11).toNat : Nat) → 0 ≤ spCnt (z 101) i s ∧ spCnt (z 101) i s ≤ 99 := fun i s i0 i1 => spCnt_b hT (s := s) ⟨i0, by omega⟩
  rw [e_X12_follows, show xF = 999999 + 1 from rfl, l_X12_follows_0]
  simp only [zLit]
  exact m_follows_l d hz hT hs hA (z 101 11).toNat 0 (by omega) (by omega) (next_ok (by omega) hc hA hs hp) 999999 (by omega)
theorem pow_pop {n : Nat} (hn : n ≤ 7) : ∀ i : Nat, i < n → (2 : Int) ^ i < 2 ^ n := by
  have : ∀ n : Fin 8, ∀ i : Fin 8, i.val < n.val → (2 : Int) ^ i.val < 2 ^ n.val := by decide
  intro i hi
  exact this ⟨n, by omega⟩ ⟨i, by omega⟩ hi
/-- the sets that the order goes through -/
def spGo2 (v A : Int → Int) (n : Nat) : Nat → Int
  | 0 => 0
  | k + 1 => spOrr (spGo2 v A n k) (spNext v A (spGo2 v A n k) n 0)
theorem spGo2_ok {v A : Int → Int} {n : Nat} (hn : n ≤ 7) (hc : ∀ i s : Int, 0 ≤ i → i < n → 0 ≤ spCnt v i s ∧ spCnt v i s ≤ 99) (hA : BestF v A n 0) : ∀ k : Nat, k ≤ n → (0 ≤ spGo2 v A n k ∧ spGo2 v A n k < 2 ^ n) ∧ spPop n (spGo2 v A n k) = k := by
  have p7 := pw7 hn
  intro k
  induction k with
  | zero =>
    intro _
    refine ⟨⟨by rw [spGo2]; omega, by rw [spGo2]; omega⟩, ?_⟩
    have : ∀ n : Fin 8, spPop n.val 0 = 0 := by decide +kernel
    exact this ⟨n, by omega⟩
  | succ k ih =>
    intro hk
    obtain ⟨h1, h2⟩ := ih (by omega)
    have nx := next_ok hn hc hA h1 (by omega)
    rw [spGo2]
    rcases spNext_b (v := v) (A := A) (s := spGo2 v A n k) n 0 (by omega) with w | w
    · omega
    · have s128 := bit_n hn (i := 0) h1
      have ob := orr_b hn h1 (i := spNext v A (spGo2 v A n k) n 0) ⟨by omega, by omega⟩ w.2.2
      have pb := pop_b hn (s := spGo2 v A n k) (i := spNext v A (spGo2 v A n k) n 0) ⟨by omega, by omega⟩ ⟨by omega, by omega⟩ w.2.2
      exact ⟨⟨by omega, ob.2⟩, by rw [pb, h2]; omega⟩
theorem c_order_l (d : Nat) {z : zH} (hz : zRR z) {v : Int → Int} (hT : PSteps 17 z v) {w : Int} (hw : 0 ≤ w ∧ w < v 11) (hA : BestF v (z 65) (v 11).toNat 0) : ∀ (m k : Nat) (st : Int), k + m = w.toNat → ∀ n, m + 1 < n → r_X1_inOrder (d + 4) n 13 [some (xR 17 64), some (xR 23 17), some (xI (zI w)), some (xI (zI (spGo2 v (z 65) (v 11).toNat k))), some (xI (zI st)), some (xI (zI (k : Int)))] [] (hI z) = some (zI (spNext v (z 65) (spGo2 v (z 65) (v 11).toNat w.toNat) (v 11).toNat 0), hI z) := by
  have h4 := hT.1.2.2.2.1
  have hn7 : (v 11).toNat ≤ 7 := by omega
  have hc : ∀ i s : Int, 0 ≤ i → i < ((v 11).toNat : Nat) → 0 ≤ spCnt v i s ∧ spCnt v i s ≤ 99 := fun i s i0 i1 => spCnt_b hT (s := s) ⟨i0, by omega⟩
  have step : ∀ (k : Nat) (st : Int) (n : Nat), (k : Int) ≤ w → r_X1_inOrder (d + 4) (n + 1) 13 [some (xR 17 64), some (xR 23 17), some (xI (zI w)), some (xI (zI (spGo2 v (z 65) (v 11).toNat k))), some (xI (zI st)), some (xI (zI (k : Int)))] [] (hI z) = r_X1_inOrder (d + 4) n 13 [some (xR 17 64), some (xR 23 17), some (xI (zI w)), some (xI (zI (spGo2 v (z 65) (v 11).toNat (k + 1)))), some (xI (zI (spNext v (z 65) (spGo2 v (z 65) (v 11).toNat k) (v 11).toNat 0))), some (xI (zI ((k : Int) + 1)))] [] (hI z) := by
    intro k st n hk
    have ok := spGo2_ok hn7 hc hA k (by omega)
    have nx := next_ok hn7 hc hA ok.1 (by omega)
    have s128 := bit_n hn7 (i := 0) ok.1
    have cf := fun d => c_first d hz hT (s := spGo2 v (z 65) (v 11).toNat k) ok.1 hA
    rcases spNext_b (v := v) (A := z 65) (s := spGo2 v (z 65) (v 11).toNat k) (v 11).toNat 0 (by omega) with x | x
    · omega
    · rw [l_X1_inOrder_13, spGo2]
      simp only [zLit, cf, xbd_n, orr_I (show 0 ≤ spGo2 v (z 65) (v 11).toNat k ∧ spGo2 v (z 65) (v 11).toNat k < 128 by omega) (show 0 ≤ spNext v (z 65) (spGo2 v (z 65) (v 11).toNat k) (v 11).toNat 0 ∧ spNext v (z 65) (spGo2 v (z 65) (v 11).toNat k) (v 11).toNat 0 < 7 by omega), zI_add]
      rw [if_neg (by rw [zI_lt (zR_s (by omega)) (zR_s (by omega))]; omega), if_pos (by rw [zI_lt (zR_s (by omega)) (zR_s (by omega))]; omega), if_neg (by rw [zI_lt (zR_s (by omega)) (zR_s (by omega))]; omega)]
  intro m
  induction m with
  | zero =>
    intro k st hk n hn
    obtain ⟨n, rfl⟩ : ∃ j, n = j + 1 + 1 := ⟨n - 2, by omega⟩
    have e : k = w.toNat := by omega
    subst e
    rw [step w.toNat st (n + 1) (by omega), l_X1_inOrder_13, if_pos (by rw [zI_lt (zR_s (by omega)) (zR_s (by omega))]; omega)]
  | succ m ih =>
    intro k st hk n hn
    obtain ⟨n, rfl⟩ : ∃ j, n = j + 1 := ⟨n - 1, by omega⟩
    rw [step k st n (by omega)]
    have := ih (k + 1) (spNext v (z 65) (spGo2 v (z 65) (v 11).toNat k) (v 11).toNat 0) (by omega) n (by omega)
    rw [show ((k + 1 : Nat) : Int) = (k : Int) + 1 by omega] at this
    exact this
theorem m_order_l (d : Nat) {z : zH} (hz : zRR z) {z0 : zH} (hT : PSteps 17 z0 (z 101)) {w : Int} (hw : 0 ≤ w ∧ w < z 101 11) (hA : BestF (z 101) (z 116) (z 101 11).toNat 0) : ∀ (m k : Nat), k + m = w.toNat → ∀ n, m < n → r_X12_order (d + 2) n 20 [some (xR 28 100), some (xI (zI w)), some (xI (zI (spGo2 (z 101) (z 116) (z 101 11).toNat k))), some (xI (zI (k : Int)))] [] (hI z) = some (zI (spNext (z 101) (z 116) (spGo2 (z 101) (z 116) (z 101 11).toNat w.toNat) (z 101 11).toNat 0), hI z) := by
  have h4 := hT.1.2.2.2.1
  have hn7 : (z 101 11).toNat ≤ 7 := by omega
  have hc : ∀ i s : Int, 0 ≤ i → i < ((z 101 11).toNat : Nat) → 0 ≤ spCnt (z 101) i s ∧ spCnt (z 101) i s ≤ 99 := fun i s i0 i1 => spCnt_b hT (s := s) ⟨i0, by omega⟩
  intro m
  induction m with
  | zero =>
    intro k hk n hn
    obtain ⟨n, rfl⟩ : ∃ j, n = j + 1 := ⟨n - 1, by omega⟩
    have e : k = w.toNat := by omega
    subst e
    have ok := spGo2_ok hn7 hc hA w.toNat (by omega)
    have cf := fun d => m_follows d hz hT (s := spGo2 (z 101) (z 116) (z 101 11).toNat w.toNat) ok.1 hA (by omega)
    rw [l_X12_order_20, if_neg (by rw [zI_lt (zR_s (by omega)) (zR_s (by omega))]; omega)]
    simp only [cf, xbd_n]
  | succ m ih =>
    intro k hk n hn
    obtain ⟨n, rfl⟩ : ∃ j, n = j + 1 := ⟨n - 1, by omega⟩
    have ok := spGo2_ok hn7 hc hA k (by omega)
    have nx := next_ok hn7 hc hA ok.1 (by omega)
    have s128 := bit_n hn7 (i := 0) ok.1
    have cf := fun d => m_follows d hz hT (s := spGo2 (z 101) (z 116) (z 101 11).toNat k) ok.1 hA (by omega)
    have := ih (k + 1) (by omega) n (by omega)
    rw [show ((k + 1 : Nat) : Int) = (k : Int) + 1 by omega, spGo2] at this
    rcases spNext_b (v := z 101) (A := z 116) (s := spGo2 (z 101) (z 116) (z 101 11).toNat k) (z 101 11).toNat 0 (by omega) with x | x
    · omega
    · rw [l_X12_order_20, if_pos (by rw [zI_lt (zR_s (by omega)) (zR_s (by omega))]; omega)]
      simp only [zLit, cf, xbd_n, orr_I (show 0 ≤ spGo2 (z 101) (z 116) (z 101 11).toNat k ∧ spGo2 (z 101) (z 116) (z 101 11).toNat k < 128 by omega) (show 0 ≤ spNext (z 101) (z 116) (spGo2 (z 101) (z 116) (z 101 11).toNat k) (z 101 11).toNat 0 ∧ spNext (z 101) (z 116) (spGo2 (z 101) (z 116) (z 101 11).toNat k) (z 101 11).toNat 0 < 7 by omega), zI_add]
      exact this
theorem spNext_eq {v A B : Int → Int} {n : Nat} (hn : n ≤ 7) (h : ∀ s : Int, 0 ≤ s → s < 2 ^ n → A s = B s) {s : Int} (hs : 0 ≤ s ∧ s < 2 ^ n) : ∀ (m : Nat) (i : Int), 0 ≤ i → i + m = n → spNext v A s m i = spNext v B s m i := by
  intro m
  induction m with
  | zero => intro i _ _; rfl
  | succ m ih =>
    intro i i0 i1
    rw [spNext, spNext, ih (i + 1) (by omega) (by omega)]
    rcases spBit_b s i with q | q
    · have ob := orr_b hn hs (i := i) ⟨i0, by omega⟩ q
      rw [h s hs.1 hs.2, h _ (by omega) ob.2]
    · rw [if_neg (by omega), if_neg (by omega)]
theorem spGo2_eq {v A B : Int → Int} {n : Nat} (hn : n ≤ 7) (hc : ∀ i s : Int, 0 ≤ i → i < n → 0 ≤ spCnt v i s ∧ spCnt v i s ≤ 99) (hA : BestF v A n 0) (h : ∀ s : Int, 0 ≤ s → s < 2 ^ n → A s = B s) : ∀ k : Nat, k ≤ n → spGo2 v A n k = spGo2 v B n k := by
  intro k
  induction k with
  | zero => intro _; rfl
  | succ k ih =>
    intro hk
    have ok := spGo2_ok hn hc hA k (by omega)
    rw [spGo2, spGo2, ← ih (by omega), spNext_eq hn h ok.1 n 0 (by omega) (by omega)]
theorem k_order {z : zH} (h : Inv z) {w : Int} (hw : zR w) : two 131 237 [xI (zI w)] z := by
  have hI0 := h
  obtain ⟨hz, hW, hK, hT, hO, hSh, hF, hCt⟩ := h
  have hT : PSteps 17 z (z 101) := hW.2.2.2.2.2.2.1
  have h3 : z 17 3 = z 101 11 := hT.1.2.2.1
  have h4 := hT.1.2.2.2.1
  have hn7 : (z 101 11).toNat ≤ 7 := by omega
  have p7 := pw7 hn7
  have hc : ∀ i s : Int, 0 ≤ i → i < ((z 101 11).toNat : Nat) → 0 ≤ spCnt (z 101) i s ∧ spCnt (z 101) i s ≤ 99 := fun i s i0 i1 => spCnt_b hT (s := s) ⟨i0, by omega⟩
  by_cases q : 0 ≤ w ∧ w < z 101 11
  · refine xw_m (P := fun r z1 => ∃ A, BestF (z 101) A (z 101 11).toNat 0 ∧ r = spNext (z 101) A (spGo2 (z 101) A (z 101 11).toNat w.toNat) (z 101 11).toNat 0 ∧ fr [65] z z1) ?_ ?_
    · rw [e_X11_order]
      repeat' (first | (with_reducible apply xw_f; (case h => (first | (simp (disch := (first | exact hz _ _ | exact hv _ | exact hL | assumption | (simp (disch := decide) only [zup_ne]; exact hL) | (simp only [zR]; omega) | omega)) only [zLit, zI_div, hI_fs, hI_us, zI_add, zI_sub, zI_mul, zI_neg, zI_lt, zI_eq, zI_ite, xbd_s, zI_nat, zld, zst, zbd, zB_0, zB_1, lenX_s, zup_at, xgd, cond_true, cond_false, and_self, and_true, true_and, false_and, and_false, or_self, or_false, false_or, if_true, if_false, ite_true, ite_false, reduceIte, reduceCtorEq, Nat.reduceEqDiff, Nat.reduceAdd, Nat.reduceMul, Int.reduceNeg, Int.reduceAdd, Int.reduceSub, Int.reduceMul, Int.reduceLT, Int.reduceLE, Int.reduceEq, Int.reduceDiv, Int.reduceMod, Int.reduceToNat, Int.toNat_zero, Int.toNat_one, Nat.reduceLeDiff, Nat.reduceLT, ite_not, not_true, not_false_eq_true, h3] <;> omega) | omega))) | (with_reducible apply xw_t; (case h => (first | (simp (disch := (first | exact hz _ _ | exact hv _ | exact hL | assumption | (simp (disch := decide) only [zup_ne]; exact hL) | (simp only [zR]; omega) | omega)) only [zLit, zI_div, hI_fs, hI_us, zI_add, zI_sub, zI_mul, zI_neg, zI_lt, zI_eq, zI_ite, xbd_s, zI_nat, zld, zst, zbd, zB_0, zB_1, lenX_s, zup_at, xgd, cond_true, cond_false, and_self, and_true, true_and, false_and, and_false, or_self, or_false, false_or, if_true, if_false, ite_true, ite_false, reduceIte, reduceCtorEq, Nat.reduceEqDiff, Nat.reduceAdd, Nat.reduceMul, Int.reduceNeg, Int.reduceAdd, Int.reduceSub, Int.reduceMul, Int.reduceLT, Int.reduceLE, Int.reduceEq, Int.reduceDiv, Int.reduceMod, Int.reduceToNat, Int.toNat_zero, Int.toNat_one, Nat.reduceLeDiff, Nat.reduceLT, ite_not, not_true, not_false_eq_true, h3] <;> omega) | omega))) | (with_reducible apply xw_b; (case h => (simp (disch := (first | exact hz _ _ | exact hv _ | exact hL | assumption | (simp (disch := decide) only [zup_ne]; exact hL) | (simp only [zR]; omega) | omega)) only [zLit, zI_div, hI_fs, hI_us, zI_add, zI_sub, zI_mul, zI_neg, zI_lt, zI_eq, zI_ite, xbd_s, zI_nat, zld, zst, zbd, zB_0, zB_1, lenX_s, zup_at, xgd, cond_true, cond_false, and_self, and_true, true_and, false_and, and_false, or_self, or_false, false_or, if_true, if_false, ite_true, ite_false, reduceIte, reduceCtorEq, Nat.reduceEqDiff, Nat.reduceAdd, Nat.reduceMul, Int.reduceNeg, Int.reduceAdd, Int.reduceSub, Int.reduceMul, Int.reduceLT, Int.reduceLE, Int.reduceEq, Int.reduceDiv, Int.reduceMod, Int.reduceToNat, Int.toNat_zero, Int.toNat_one, Nat.reduceLeDiff, Nat.reduceLT, ite_not, not_true, not_false_eq_true, h3, c_rHas]; rfl)); try dsimp only) | (with_reducible apply xw_c <;> intro q9 <;> (try simp (disch := (first | exact hz _ _ | exact hv _ | exact hL | assumption | (simp (disch := decide) only [zup_ne]; exact hL) | (simp only [zR]; omega) | omega)) only [zLit, zI_div, hI_fs, hI_us, zI_add, zI_sub, zI_mul, zI_neg, zI_lt, zI_eq, zI_ite, xbd_s, zI_nat, zld, zst, zbd, zB_0, zB_1, lenX_s, zup_at, xgd, cond_true, cond_false, and_self, and_true, true_and, false_and, and_false, or_self, or_false, false_or, if_true, if_false, ite_true, ite_false, reduceIte, reduceCtorEq, Nat.reduceEqDiff, Nat.reduceAdd, Nat.reduceMul, Int.reduceNeg, Int.reduceAdd, Int.reduceSub, Int.reduceMul, Int.reduceLT, Int.reduceLE, Int.reduceEq, Int.reduceDiv, Int.reduceMod, Int.reduceToNat, Int.toNat_zero, Int.toNat_one, Nat.reduceLeDiff, Nat.reduceLT, ite_not, not_true, not_false_eq_true, h3] at q9)))
      rw [e_X1_inOrder, show xF = 999999 + 1 from rfl, l_X1_inOrder_0]
      have B : xw (xbd (cM 58 10 [xR 17 64, xR 23 17] (hI z)) fun r1 h2 => r_X1_inOrder 58 999999 13 [some (xR 17 64), some (xR 23 17), some (xI (zI w)), some (xI 0), some (xI (-1)), some (xI 0)] [] h2) (fun r z1 => ∃ A, BestF (z 101) A (z 101 11).toNat 0 ∧ r = spNext (z 101) A (spGo2 (z 101) A (z 101 11).toNat w.toNat) (z 101 11).toNat 0 ∧ fr [65] z z1) := by
        refine xw_k (c_weigh 54 hz hT) ?_
        intro r z1 hr hz1 ⟨hA, f⟩
        have ll := c_order_l 54 hz1 (v := z 101) (PSteps_t hT (f 17 rfl) (f 18 rfl) (fun _ _ => rfl)) q hA w.toNat 0 (-1) (by omega) 999999 (by omega)
        simp only [zLit, zI_neg]
        have nb := spNext_b (v := z 101) (A := z1 65) (s := spGo2 (z 101) (z1 65) (z 101 11).toNat w.toNat) (z 101 11).toNat 0 (by omega)
        exact xw_eq ll (zR_s (by omega)) hz1 ⟨z1 65, hA, rfl, f⟩
      refine xw_k B ?_
      intro r z1 hr hz1 p
      exact xw_ret hr hz1 p
    · intro r z1 hr hz1 ⟨A, hA, e, f⟩
      have e1 : z1 101 = z 101 := f 101 rfl
      have inv : Inv z1 := Inv_scrC hI0 hz1 (fr_mono f rfl)
      have b11 : 0 ≤ z1 101 11 ∧ z1 101 11 ≤ 7 := by rw [e1]; exact h4
      have q1 : 0 ≤ w ∧ w < z1 101 11 := by rw [e1]; exact q
      have hz := hz1
      rw [e_X12_order, show xF = 999999 + 1 from rfl, l_X12_order_0]
      repeat' (first | (with_reducible apply xw_f; (case h => (first | (simp (disch := (first | exact hz _ _ | exact hv _ | exact hL | assumption | (simp (disch := decide) only [zup_ne]; exact hL) | (simp only [zR]; omega) | omega)) only [zLit, zI_div, hI_fs, hI_us, zI_add, zI_sub, zI_mul, zI_neg, zI_lt, zI_eq, zI_ite, xbd_s, zI_nat, zld, zst, zbd, zB_0, zB_1, lenX_s, zup_at, xgd, cond_true, cond_false, and_self, and_true, true_and, false_and, and_false, or_self, or_false, false_or, if_true, if_false, ite_true, ite_false, reduceIte, reduceCtorEq, Nat.reduceEqDiff, Nat.reduceAdd, Nat.reduceMul, Int.reduceNeg, Int.reduceAdd, Int.reduceSub, Int.reduceMul, Int.reduceLT, Int.reduceLE, Int.reduceEq, Int.reduceDiv, Int.reduceMod, Int.reduceToNat, Int.toNat_zero, Int.toNat_one, Nat.reduceLeDiff, Nat.reduceLT, ite_not, not_true, not_false_eq_true] <;> omega) | omega))) | (with_reducible apply xw_t; (case h => (first | (simp (disch := (first | exact hz _ _ | exact hv _ | exact hL | assumption | (simp (disch := decide) only [zup_ne]; exact hL) | (simp only [zR]; omega) | omega)) only [zLit, zI_div, hI_fs, hI_us, zI_add, zI_sub, zI_mul, zI_neg, zI_lt, zI_eq, zI_ite, xbd_s, zI_nat, zld, zst, zbd, zB_0, zB_1, lenX_s, zup_at, xgd, cond_true, cond_false, and_self, and_true, true_and, false_and, and_false, or_self, or_false, false_or, if_true, if_false, ite_true, ite_false, reduceIte, reduceCtorEq, Nat.reduceEqDiff, Nat.reduceAdd, Nat.reduceMul, Int.reduceNeg, Int.reduceAdd, Int.reduceSub, Int.reduceMul, Int.reduceLT, Int.reduceLE, Int.reduceEq, Int.reduceDiv, Int.reduceMod, Int.reduceToNat, Int.toNat_zero, Int.toNat_one, Nat.reduceLeDiff, Nat.reduceLT, ite_not, not_true, not_false_eq_true] <;> omega) | omega))) | (with_reducible apply xw_b; (case h => (simp (disch := (first | exact hz _ _ | exact hv _ | exact hL | assumption | (simp (disch := decide) only [zup_ne]; exact hL) | (simp only [zR]; omega) | omega)) only [zLit, zI_div, hI_fs, hI_us, zI_add, zI_sub, zI_mul, zI_neg, zI_lt, zI_eq, zI_ite, xbd_s, zI_nat, zld, zst, zbd, zB_0, zB_1, lenX_s, zup_at, xgd, cond_true, cond_false, and_self, and_true, true_and, false_and, and_false, or_self, or_false, false_or, if_true, if_false, ite_true, ite_false, reduceIte, reduceCtorEq, Nat.reduceEqDiff, Nat.reduceAdd, Nat.reduceMul, Int.reduceNeg, Int.reduceAdd, Int.reduceSub, Int.reduceMul, Int.reduceLT, Int.reduceLE, Int.reduceEq, Int.reduceDiv, Int.reduceMod, Int.reduceToNat, Int.toNat_zero, Int.toNat_one, Nat.reduceLeDiff, Nat.reduceLT, ite_not, not_true, not_false_eq_true, m_is]; rfl)); try dsimp only) | (with_reducible apply xw_c <;> intro q9 <;> (try simp (disch := (first | exact hz _ _ | exact hv _ | exact hL | assumption | (simp (disch := decide) only [zup_ne]; exact hL) | (simp only [zR]; omega) | omega)) only [zLit, zI_div, hI_fs, hI_us, zI_add, zI_sub, zI_mul, zI_neg, zI_lt, zI_eq, zI_ite, xbd_s, zI_nat, zld, zst, zbd, zB_0, zB_1, lenX_s, zup_at, xgd, cond_true, cond_false, and_self, and_true, true_and, false_and, and_false, or_self, or_false, false_or, if_true, if_false, ite_true, ite_false, reduceIte, reduceCtorEq, Nat.reduceEqDiff, Nat.reduceAdd, Nat.reduceMul, Int.reduceNeg, Int.reduceAdd, Int.reduceSub, Int.reduceMul, Int.reduceLT, Int.reduceLE, Int.reduceEq, Int.reduceDiv, Int.reduceMod, Int.reduceToNat, Int.toNat_zero, Int.toNat_one, Nat.reduceLeDiff, Nat.reduceLT, ite_not, not_true, not_false_eq_true] at q9)))
      refine xw_k (m_find 56 hz1 (z0 := z) (by rw [e1]; exact hT)) ?_
      intro r2 z2 hr2 hz2 ⟨hA2, f2⟩
      have e2 : z2 101 = z 101 := (f2 101 rfl).trans e1
      rw [e1] at hA2
      have ll := m_order_l 57 hz2 (z0 := z) (by rw [e2]; exact hT) (by rw [e2]; exact q) (by rw [e2]; exact hA2) w.toNat 0 (by omega) 999999 (by omega)
      rw [e2] at ll
      have hu : ∀ s : Int, 0 ≤ s → s < 2 ^ (z 101 11).toNat → A s = z2 116 s := fun s s0 s1 => BestF_u hn7 hA hA2 (2 ^ (z 101 11).toNat - s : Int).toNat s s0 s1 (by omega)
      have g1 := spGo2_eq hn7 hc hA hu w.toNat (by omega)
      have ok := spGo2_ok hn7 hc hA w.toNat (by omega)
      have n1 := spNext_eq (v := z 101) hn7 hu ok.1 (z 101 11).toNat 0 (by omega) (by omega)
      simp only [zLit]
      have nb := spNext_b (v := z 101) (A := z2 116) (s := spGo2 (z 101) (z2 116) (z 101 11).toNat w.toNat) (z 101 11).toNat 0 (by omega)
      refine xw_eq ll (zR_s (by omega)) hz2 ⟨?_, Inv_scrM (F := []) inv hz2 (fr_mono f2 rfl) (fun k _ => by rw [f2 100 rfl]) rfl rfl rfl rfl⟩
      rw [e, n1, g1]
  · refine two_ro hI0 (-1) (by simp only [zR]; omega) ?_ ?_
    · rw [e_X11_order]
      repeat' (first | (with_reducible apply hs_f; (case h => (first | (simp (disch := (first | exact hz _ _ | exact hv _ | exact hL | assumption | (simp (disch := decide) only [zup_ne]; exact hL) | (simp only [zR]; omega) | omega)) only [zLit, zI_div, hI_fs, hI_us, zI_add, zI_sub, zI_mul, zI_neg, zI_lt, zI_eq, zI_ite, xbd_s, zI_nat, zld, zst, zbd, zB_0, zB_1, lenX_s, zup_at, xgd, cond_true, cond_false, and_self, and_true, true_and, false_and, and_false, or_self, or_false, false_or, if_true, if_false, ite_true, ite_false, reduceIte, reduceCtorEq, Nat.reduceEqDiff, Nat.reduceAdd, Nat.reduceMul, Int.reduceNeg, Int.reduceAdd, Int.reduceSub, Int.reduceMul, Int.reduceLT, Int.reduceLE, Int.reduceEq, Int.reduceDiv, Int.reduceMod, Int.reduceToNat, Int.toNat_zero, Int.toNat_one, Nat.reduceLeDiff, Nat.reduceLT, ite_not, not_true, not_false_eq_true, h3] <;> omega) | omega))) | (with_reducible apply hs_t; (case h => (first | (simp (disch := (first | exact hz _ _ | exact hv _ | exact hL | assumption | (simp (disch := decide) only [zup_ne]; exact hL) | (simp only [zR]; omega) | omega)) only [zLit, zI_div, hI_fs, hI_us, zI_add, zI_sub, zI_mul, zI_neg, zI_lt, zI_eq, zI_ite, xbd_s, zI_nat, zld, zst, zbd, zB_0, zB_1, lenX_s, zup_at, xgd, cond_true, cond_false, and_self, and_true, true_and, false_and, and_false, or_self, or_false, false_or, if_true, if_false, ite_true, ite_false, reduceIte, reduceCtorEq, Nat.reduceEqDiff, Nat.reduceAdd, Nat.reduceMul, Int.reduceNeg, Int.reduceAdd, Int.reduceSub, Int.reduceMul, Int.reduceLT, Int.reduceLE, Int.reduceEq, Int.reduceDiv, Int.reduceMod, Int.reduceToNat, Int.toNat_zero, Int.toNat_one, Nat.reduceLeDiff, Nat.reduceLT, ite_not, not_true, not_false_eq_true, h3] <;> omega) | omega))) | (with_reducible apply hs_b; (case h => (simp (disch := (first | exact hz _ _ | exact hv _ | exact hL | assumption | (simp (disch := decide) only [zup_ne]; exact hL) | (simp only [zR]; omega) | omega)) only [zLit, zI_div, hI_fs, hI_us, zI_add, zI_sub, zI_mul, zI_neg, zI_lt, zI_eq, zI_ite, xbd_s, zI_nat, zld, zst, zbd, zB_0, zB_1, lenX_s, zup_at, xgd, cond_true, cond_false, and_self, and_true, true_and, false_and, and_false, or_self, or_false, false_or, if_true, if_false, ite_true, ite_false, reduceIte, reduceCtorEq, Nat.reduceEqDiff, Nat.reduceAdd, Nat.reduceMul, Int.reduceNeg, Int.reduceAdd, Int.reduceSub, Int.reduceMul, Int.reduceLT, Int.reduceLE, Int.reduceEq, Int.reduceDiv, Int.reduceMod, Int.reduceToNat, Int.toNat_zero, Int.toNat_one, Nat.reduceLeDiff, Nat.reduceLT, ite_not, not_true, not_false_eq_true, h3, c_rHas]; rfl)); try dsimp only) | (with_reducible apply hs_c <;> intro q9 <;> (try simp (disch := (first | exact hz _ _ | exact hv _ | exact hL | assumption | (simp (disch := decide) only [zup_ne]; exact hL) | (simp only [zR]; omega) | omega)) only [zLit, zI_div, hI_fs, hI_us, zI_add, zI_sub, zI_mul, zI_neg, zI_lt, zI_eq, zI_ite, xbd_s, zI_nat, zld, zst, zbd, zB_0, zB_1, lenX_s, zup_at, xgd, cond_true, cond_false, and_self, and_true, true_and, false_and, and_false, or_self, or_false, false_or, if_true, if_false, ite_true, ite_false, reduceIte, reduceCtorEq, Nat.reduceEqDiff, Nat.reduceAdd, Nat.reduceMul, Int.reduceNeg, Int.reduceAdd, Int.reduceSub, Int.reduceMul, Int.reduceLT, Int.reduceLE, Int.reduceEq, Int.reduceDiv, Int.reduceMod, Int.reduceToNat, Int.toNat_zero, Int.toNat_one, Nat.reduceLeDiff, Nat.reduceLT, ite_not, not_true, not_false_eq_true, h3] at q9)))
      all_goals first | rfl | omega | (simp (maxSteps := 3000000) (disch := (first | exact hz _ _ | exact hv _ | exact hL | assumption | (simp (disch := decide) only [zup_ne]; exact hL) | (simp only [zR]; omega) | omega)) only [zLit, zI_div, hI_fs, hI_us, zI_add, zI_sub, zI_mul, zI_neg, zI_lt, zI_eq, zI_ite, xbd_s, zI_nat, zld, zst, zbd, zB_0, zB_1, lenX_s, zup_at, xgd, cond_true, cond_false, and_self, and_true, true_and, false_and, and_false, or_self, or_false, false_or, if_true, if_false, ite_true, ite_false, reduceIte, reduceCtorEq, Nat.reduceEqDiff, Nat.reduceAdd, Nat.reduceMul, Int.reduceNeg, Int.reduceAdd, Int.reduceSub, Int.reduceMul, Int.reduceLT, Int.reduceLE, Int.reduceEq, Int.reduceDiv, Int.reduceMod, Int.reduceToNat, Int.toNat_zero, Int.toNat_one, Nat.reduceLeDiff, Nat.reduceLT, ite_not, not_true, not_false_eq_true]; done) | (simp (maxSteps := 3000000) (disch := (first | exact hz _ _ | exact hv _ | exact hL | assumption | (simp (disch := decide) only [zup_ne]; exact hL) | (simp only [zR]; omega) | omega)) only [zLit, zI_div, hI_fs, hI_us, zI_add, zI_sub, zI_mul, zI_neg, zI_lt, zI_eq, zI_ite, xbd_s, zI_nat, zld, zst, zbd, zB_0, zB_1, lenX_s, zup_at, xgd, cond_true, cond_false, and_self, and_true, true_and, false_and, and_false, or_self, or_false, false_or, if_true, if_false, ite_true, ite_false, reduceIte, reduceCtorEq, Nat.reduceEqDiff, Nat.reduceAdd, Nat.reduceMul, Int.reduceNeg, Int.reduceAdd, Int.reduceSub, Int.reduceMul, Int.reduceLT, Int.reduceLE, Int.reduceEq, Int.reduceDiv, Int.reduceMod, Int.reduceToNat, Int.toNat_zero, Int.toNat_one, Nat.reduceLeDiff, Nat.reduceLT, ite_not, not_true, not_false_eq_true]; rfl)
    · rw [e_X12_order, show xF = 999999 + 1 from rfl, l_X12_order_0]
      repeat' (first | (with_reducible apply hs_f; (case h => (first | (simp (disch := (first | exact hz _ _ | exact hv _ | exact hL | assumption | (simp (disch := decide) only [zup_ne]; exact hL) | (simp only [zR]; omega) | omega)) only [zLit, zI_div, hI_fs, hI_us, zI_add, zI_sub, zI_mul, zI_neg, zI_lt, zI_eq, zI_ite, xbd_s, zI_nat, zld, zst, zbd, zB_0, zB_1, lenX_s, zup_at, xgd, cond_true, cond_false, and_self, and_true, true_and, false_and, and_false, or_self, or_false, false_or, if_true, if_false, ite_true, ite_false, reduceIte, reduceCtorEq, Nat.reduceEqDiff, Nat.reduceAdd, Nat.reduceMul, Int.reduceNeg, Int.reduceAdd, Int.reduceSub, Int.reduceMul, Int.reduceLT, Int.reduceLE, Int.reduceEq, Int.reduceDiv, Int.reduceMod, Int.reduceToNat, Int.toNat_zero, Int.toNat_one, Nat.reduceLeDiff, Nat.reduceLT, ite_not, not_true, not_false_eq_true] <;> omega) | omega))) | (with_reducible apply hs_t; (case h => (first | (simp (disch := (first | exact hz _ _ | exact hv _ | exact hL | assumption | (simp (disch := decide) only [zup_ne]; exact hL) | (simp only [zR]; omega) | omega)) only [zLit, zI_div, hI_fs, hI_us, zI_add, zI_sub, zI_mul, zI_neg, zI_lt, zI_eq, zI_ite, xbd_s, zI_nat, zld, zst, zbd, zB_0, zB_1, lenX_s, zup_at, xgd, cond_true, cond_false, and_self, and_true, true_and, false_and, and_false, or_self, or_false, false_or, if_true, if_false, ite_true, ite_false, reduceIte, reduceCtorEq, Nat.reduceEqDiff, Nat.reduceAdd, Nat.reduceMul, Int.reduceNeg, Int.reduceAdd, Int.reduceSub, Int.reduceMul, Int.reduceLT, Int.reduceLE, Int.reduceEq, Int.reduceDiv, Int.reduceMod, Int.reduceToNat, Int.toNat_zero, Int.toNat_one, Nat.reduceLeDiff, Nat.reduceLT, ite_not, not_true, not_false_eq_true] <;> omega) | omega))) | (with_reducible apply hs_b; (case h => (simp (disch := (first | exact hz _ _ | exact hv _ | exact hL | assumption | (simp (disch := decide) only [zup_ne]; exact hL) | (simp only [zR]; omega) | omega)) only [zLit, zI_div, hI_fs, hI_us, zI_add, zI_sub, zI_mul, zI_neg, zI_lt, zI_eq, zI_ite, xbd_s, zI_nat, zld, zst, zbd, zB_0, zB_1, lenX_s, zup_at, xgd, cond_true, cond_false, and_self, and_true, true_and, false_and, and_false, or_self, or_false, false_or, if_true, if_false, ite_true, ite_false, reduceIte, reduceCtorEq, Nat.reduceEqDiff, Nat.reduceAdd, Nat.reduceMul, Int.reduceNeg, Int.reduceAdd, Int.reduceSub, Int.reduceMul, Int.reduceLT, Int.reduceLE, Int.reduceEq, Int.reduceDiv, Int.reduceMod, Int.reduceToNat, Int.toNat_zero, Int.toNat_one, Nat.reduceLeDiff, Nat.reduceLT, ite_not, not_true, not_false_eq_true, m_is]; rfl)); try dsimp only) | (with_reducible apply hs_c <;> intro q9 <;> (try simp (disch := (first | exact hz _ _ | exact hv _ | exact hL | assumption | (simp (disch := decide) only [zup_ne]; exact hL) | (simp only [zR]; omega) | omega)) only [zLit, zI_div, hI_fs, hI_us, zI_add, zI_sub, zI_mul, zI_neg, zI_lt, zI_eq, zI_ite, xbd_s, zI_nat, zld, zst, zbd, zB_0, zB_1, lenX_s, zup_at, xgd, cond_true, cond_false, and_self, and_true, true_and, false_and, and_false, or_self, or_false, false_or, if_true, if_false, ite_true, ite_false, reduceIte, reduceCtorEq, Nat.reduceEqDiff, Nat.reduceAdd, Nat.reduceMul, Int.reduceNeg, Int.reduceAdd, Int.reduceSub, Int.reduceMul, Int.reduceLT, Int.reduceLE, Int.reduceEq, Int.reduceDiv, Int.reduceMod, Int.reduceToNat, Int.toNat_zero, Int.toNat_one, Nat.reduceLeDiff, Nat.reduceLT, ite_not, not_true, not_false_eq_true] at q9)))
      all_goals first | rfl | omega | (simp (maxSteps := 3000000) (disch := (first | exact hz _ _ | exact hv _ | exact hL | assumption | (simp (disch := decide) only [zup_ne]; exact hL) | (simp only [zR]; omega) | omega)) only [zLit, zI_div, hI_fs, hI_us, zI_add, zI_sub, zI_mul, zI_neg, zI_lt, zI_eq, zI_ite, xbd_s, zI_nat, zld, zst, zbd, zB_0, zB_1, lenX_s, zup_at, xgd, cond_true, cond_false, and_self, and_true, true_and, false_and, and_false, or_self, or_false, false_or, if_true, if_false, ite_true, ite_false, reduceIte, reduceCtorEq, Nat.reduceEqDiff, Nat.reduceAdd, Nat.reduceMul, Int.reduceNeg, Int.reduceAdd, Int.reduceSub, Int.reduceMul, Int.reduceLT, Int.reduceLE, Int.reduceEq, Int.reduceDiv, Int.reduceMod, Int.reduceToNat, Int.toNat_zero, Int.toNat_one, Nat.reduceLeDiff, Nat.reduceLT, ite_not, not_true, not_false_eq_true]; done) | (simp (maxSteps := 3000000) (disch := (first | exact hz _ _ | exact hv _ | exact hL | assumption | (simp (disch := decide) only [zup_ne]; exact hL) | (simp only [zR]; omega) | omega)) only [zLit, zI_div, hI_fs, hI_us, zI_add, zI_sub, zI_mul, zI_neg, zI_lt, zI_eq, zI_ite, xbd_s, zI_nat, zld, zst, zbd, zB_0, zB_1, lenX_s, zup_at, xgd, cond_true, cond_false, and_self, and_true, true_and, false_and, and_false, or_self, or_false, false_or, if_true, if_false, ite_true, ite_false, reduceIte, reduceCtorEq, Nat.reduceEqDiff, Nat.reduceAdd, Nat.reduceMul, Int.reduceNeg, Int.reduceAdd, Int.reduceSub, Int.reduceMul, Int.reduceLT, Int.reduceLE, Int.reduceEq, Int.reduceDiv, Int.reduceMod, Int.reduceToNat, Int.toNat_zero, Int.toNat_one, Nat.reduceLeDiff, Nat.reduceLT, ite_not, not_true, not_false_eq_true]; rfl)
/-! as it stands -/
theorem preL : ∀ i : Fin 7, spOrr (2 ^ i.val - 1) (i.val : Int) = 2 ^ (i.val + 1) - 1 := by decide +kernel
theorem c_stands_l (d : Nat) {z : zH} (hz : zRR z) {v : Int → Int} (hT : PSteps 17 z v) : ∀ (m i : Nat) (a : Int), (i : Int) + m = v 11 → (0 ≤ a ∧ a ≤ 99 * i) → ∀ n, m < n → r_X1_asItStands (d + 3) n 7 [none, some (xR 23 17), some (xI (zI a)), some (xI (zI (2 ^ i - 1))), some (xI (zI (i : Int)))] [] (hI z) = some (zI (spSum (fun k => spCnt v k (2 ^ k.toNat - 1)) m i a), hI z) := by
  have h3 : z 17 3 = v 11 := hT.1.2.2.1
  have h4 := hT.1.2.2.2.1
  intro m
  induction m with
  | zero =>
    intro i a hi ha n hn
    obtain ⟨n, rfl⟩ : ∃ j, n = j + 1 := ⟨n - 1, by omega⟩
    rw [l_X1_asItStands_7]
    simp only [hI_fs, h3]
    rw [if_neg (by rw [zI_lt (zR_s (by omega)) (zR_s (by omega))]; omega)]
    rfl
  | succ m ih =>
    intro i a hi ha n hn
    obtain ⟨n, rfl⟩ : ∃ j, n = j + 1 := ⟨n - 1, by omega⟩
    have p7 := pw7 (n := i) (by omega)
    have cs := fun d => c_stepSum d hz hT (s := 2 ^ i - 1) ⟨by omega, by omega⟩
    have cc := fun d => c_counting d hz hT (i := (i : Int)) (s := 2 ^ i - 1) ⟨by omega, by omega⟩
    have cb := spCnt_b hT (i := (i : Int)) (s := 2 ^ i - 1) ⟨by omega, by omega⟩
    have po := preL ⟨i, by omega⟩
    simp only at po
    have hx := ih (i + 1) (a + spCnt v i (2 ^ i - 1)) (by omega) (by omega) n (by omega)
    rw [show ((i + 1 : Nat) : Int) = (i : Int) + 1 by omega] at hx
    rw [l_X1_asItStands_7, spSum]
    simp only [hI_fs, h3, zLit, cs, xbd_n]
    simp only [cc, xbd_n, orr_I (show 0 ≤ (2 : Int) ^ i - 1 ∧ (2 : Int) ^ i - 1 < 128 by omega) (show 0 ≤ (i : Int) ∧ (i : Int) < 7 by omega), po, zI_add, Int.toNat_natCast]
    rw [if_pos (by rw [zI_lt (zR_s (by omega)) (zR_s (by omega))]; omega)]
    exact hx
theorem m_stands_l (d : Nat) {z : zH} (hz : zRR z) {z0 : zH} (hT : PSteps 17 z0 (z 101)) : ∀ (m i : Nat) (a : Int), (i : Int) + m = z 101 11 → (0 ≤ a ∧ a ≤ 99 * i) → ∀ n, m < n → r_X12_worth (d + 1) n 31 [some (xR 28 100), none, some (xI (zI a)), some (xI (zI (i : Int)))] [] (hI z) = some (zI (spSum (fun k => spCnt (z 101) k (2 ^ k.toNat - 1)) m i a), hI z) := by
  have h4 := hT.1.2.2.2.1
  have h0r : zR 0 := zR_s (by omega)
  have h11 : zR 11 := zR_s (by omega)
  intro m
  induction m with
  | zero =>
    intro i a hi ha n hn
    obtain ⟨n, rfl⟩ : ∃ j, n = j + 1 := ⟨n - 1, by omega⟩
    rw [l_X12_worth_31]
    simp only [zLit, lenX_s, zI_nat h11, zld (show (0 : Int) ≤ 11 by omega)]
    rw [if_neg (by rw [zI_lt h11 h0r]; omega), if_neg (by rw [zI_lt (zR_s (by omega)) (zR_s (by omega))]; omega)]
    rfl
  | succ m ih =>
    intro i a hi ha n hn
    obtain ⟨n, rfl⟩ : ∃ j, n = j + 1 := ⟨n - 1, by omega⟩
    have p7 := pw7 (n := i) (by omega)
    have cc := fun d => m_counts d hz hT (i := (i : Int)) (s := 2 ^ i - 1) ⟨by omega, by omega⟩ ⟨by omega, by omega⟩
    have cb := spCnt_b hT (i := (i : Int)) (s := 2 ^ i - 1) ⟨by omega, by omega⟩
    have hx := ih (i + 1) (a + spCnt (z 101) i (2 ^ i - 1)) (by omega) (by omega) n (by omega)
    rw [show ((i + 1 : Nat) : Int) = (i : Int) + 1 by omega] at hx
    rw [l_X12_worth_31, spSum]
    simp only [zLit, lenX_s, zI_nat h11, zld (show (0 : Int) ≤ 11 by omega), pow_I (show 0 ≤ (i : Int) ∧ (i : Int) ≤ 8 by omega), zI_sub, Int.toNat_natCast, zI_add]
    rw [if_neg (by rw [zI_lt h11 h0r]; omega), if_pos (by rw [zI_lt (zR_s (by omega)) (zR_s (by omega))]; omega)]
    simp only [cc, xbd_n, zI_add]
    exact hx
theorem k_worth {z : zH} (h : Inv z) {w : Int} (hw : zR w) : two 130 236 [xI (zI w)] z := by
  have hI0 := h
  obtain ⟨hz, hW, hK, hT, hO, hSh, hF, hCt⟩ := h
  have hT : PSteps 17 z (z 101) := hW.2.2.2.2.2.2.1
  have h3 : z 17 3 = z 101 11 := hT.1.2.2.1
  have h4 := hT.1.2.2.2.1
  have hn7 : (z 101 11).toNat ≤ 7 := by omega
  have p7 := pw7 hn7
  have hc : ∀ i s : Int, 0 ≤ i → i < ((z 101 11).toNat : Nat) → 0 ≤ spCnt (z 101) i s ∧ spCnt (z 101) i s ≤ 99 := fun i s i0 i1 => spCnt_b hT (s := s) ⟨i0, by omega⟩
  have h0r : zR 0 := zR_s (by omega)
  by_cases q0 : w = 0
  · subst q0
    have E1 := c_stands_l 55 hz hT (z 101 11).toNat 0 0 (by omega) (by omega) 999999 (by omega)
    have E2 := m_stands_l 58 hz hT (z 101 11).toNat 0 0 (by omega) (by omega) 999999 (by omega)
    have sb := spSum_b (f := fun k => spCnt (z 101) k (2 ^ k.toNat - 1)) (lo := 0) (hi := 99) (z 101 11).toNat 0 0 (fun k k0 k1 => hc k _ k0 (by omega))
    refine two_ro hI0 (spSum (fun k => spCnt (z 101) k (2 ^ k.toNat - 1)) (z 101 11).toNat ((0 : Nat) : Int) 0) ?_ ?_ ?_
    · refine zR_s ⟨?_, ?_⟩
      · have := sb.1
        show -1000000 ≤ spSum (fun k => spCnt (z 101) k (2 ^ k.toNat - 1)) (z 101 11).toNat 0 0
        omega
      · have := sb.2
        show spSum (fun k => spCnt (z 101) k (2 ^ k.toNat - 1)) (z 101 11).toNat 0 0 ≤ 1000000
        omega
    · rw [e_X11_worth]
      repeat' (first | (with_reducible apply hs_f; (case h => (first | (simp (disch := (first | exact hz _ _ | exact hv _ | exact hL | assumption | (simp (disch := decide) only [zup_ne]; exact hL) | (simp only [zR]; omega) | omega)) only [zLit, zI_div, hI_fs, hI_us, zI_add, zI_sub, zI_mul, zI_neg, zI_lt, zI_eq, zI_ite, xbd_s, zI_nat, zld, zst, zbd, zB_0, zB_1, lenX_s, zup_at, xgd, cond_true, cond_false, and_self, and_true, true_and, false_and, and_false, or_self, or_false, false_or, if_true, if_false, ite_true, ite_false, reduceIte, reduceCtorEq, Nat.reduceEqDiff, Nat.reduceAdd, Nat.reduceMul, Int.reduceNeg, Int.reduceAdd, Int.reduceSub, Int.reduceMul, Int.reduceLT, Int.reduceLE, Int.reduceEq, Int.reduceDiv, Int.reduceMod, Int.reduceToNat, Int.toNat_zero, Int.toNat_one, Nat.reduceLeDiff, Nat.reduceLT, ite_not, not_true, not_false_eq_true] <;> omega) | omega))) | (with_reducible apply hs_t; (case h => (first | (simp (disch := (first | exact hz _ _ | exact hv _ | exact hL | assumption | (simp (disch := decide) only [zup_ne]; exact hL) | (simp only [zR]; omega) | omega)) only [zLit, zI_div, hI_fs, hI_us, zI_add, zI_sub, zI_mul, zI_neg, zI_lt, zI_eq, zI_ite, xbd_s, zI_nat, zld, zst, zbd, zB_0, zB_1, lenX_s, zup_at, xgd, cond_true, cond_false, and_self, and_true, true_and, false_and, and_false, or_self, or_false, false_or, if_true, if_false, ite_true, ite_false, reduceIte, reduceCtorEq, Nat.reduceEqDiff, Nat.reduceAdd, Nat.reduceMul, Int.reduceNeg, Int.reduceAdd, Int.reduceSub, Int.reduceMul, Int.reduceLT, Int.reduceLE, Int.reduceEq, Int.reduceDiv, Int.reduceMod, Int.reduceToNat, Int.toNat_zero, Int.toNat_one, Nat.reduceLeDiff, Nat.reduceLT, ite_not, not_true, not_false_eq_true] <;> omega) | omega))) | (with_reducible apply hs_b; (case h => (simp (disch := (first | exact hz _ _ | exact hv _ | exact hL | assumption | (simp (disch := decide) only [zup_ne]; exact hL) | (simp only [zR]; omega) | omega)) only [zLit, zI_div, hI_fs, hI_us, zI_add, zI_sub, zI_mul, zI_neg, zI_lt, zI_eq, zI_ite, xbd_s, zI_nat, zld, zst, zbd, zB_0, zB_1, lenX_s, zup_at, xgd, cond_true, cond_false, and_self, and_true, true_and, false_and, and_false, or_self, or_false, false_or, if_true, if_false, ite_true, ite_false, reduceIte, reduceCtorEq, Nat.reduceEqDiff, Nat.reduceAdd, Nat.reduceMul, Int.reduceNeg, Int.reduceAdd, Int.reduceSub, Int.reduceMul, Int.reduceLT, Int.reduceLE, Int.reduceEq, Int.reduceDiv, Int.reduceMod, Int.reduceToNat, Int.toNat_zero, Int.toNat_one, Nat.reduceLeDiff, Nat.reduceLT, ite_not, not_true, not_false_eq_true, c_within]; rfl)); try dsimp only) | (with_reducible apply hs_c <;> intro q9 <;> (try simp (disch := (first | exact hz _ _ | exact hv _ | exact hL | assumption | (simp (disch := decide) only [zup_ne]; exact hL) | (simp only [zR]; omega) | omega)) only [zLit, zI_div, hI_fs, hI_us, zI_add, zI_sub, zI_mul, zI_neg, zI_lt, zI_eq, zI_ite, xbd_s, zI_nat, zld, zst, zbd, zB_0, zB_1, lenX_s, zup_at, xgd, cond_true, cond_false, and_self, and_true, true_and, false_and, and_false, or_self, or_false, false_or, if_true, if_false, ite_true, ite_false, reduceIte, reduceCtorEq, Nat.reduceEqDiff, Nat.reduceAdd, Nat.reduceMul, Int.reduceNeg, Int.reduceAdd, Int.reduceSub, Int.reduceMul, Int.reduceLT, Int.reduceLE, Int.reduceEq, Int.reduceDiv, Int.reduceMod, Int.reduceToNat, Int.toNat_zero, Int.toNat_one, Nat.reduceLeDiff, Nat.reduceLT, ite_not, not_true, not_false_eq_true] at q9)))
      rw [e_X1_asItStands, show xF = 999999 + 1 from rfl, l_X1_asItStands_0]
      simp only [zLit]
      rw [show (2 : Int) ^ 0 - 1 = 0 from by decide] at E1
      rw [show ((0 : Nat) : Int) = 0 from rfl] at E1
      simp only [E1, xbd_n]
      rfl
    · rw [e_X12_worth, show xF = 999999 + 1 from rfl, l_X12_worth_0]
      repeat' (first | (with_reducible apply hs_f; (case h => (first | (simp (disch := (first | exact hz _ _ | exact hv _ | exact hL | assumption | (simp (disch := decide) only [zup_ne]; exact hL) | (simp only [zR]; omega) | omega)) only [zLit, zI_div, hI_fs, hI_us, zI_add, zI_sub, zI_mul, zI_neg, zI_lt, zI_eq, zI_ite, xbd_s, zI_nat, zld, zst, zbd, zB_0, zB_1, lenX_s, zup_at, xgd, cond_true, cond_false, and_self, and_true, true_and, false_and, and_false, or_self, or_false, false_or, if_true, if_false, ite_true, ite_false, reduceIte, reduceCtorEq, Nat.reduceEqDiff, Nat.reduceAdd, Nat.reduceMul, Int.reduceNeg, Int.reduceAdd, Int.reduceSub, Int.reduceMul, Int.reduceLT, Int.reduceLE, Int.reduceEq, Int.reduceDiv, Int.reduceMod, Int.reduceToNat, Int.toNat_zero, Int.toNat_one, Nat.reduceLeDiff, Nat.reduceLT, ite_not, not_true, not_false_eq_true] <;> omega) | omega))) | (with_reducible apply hs_t; (case h => (first | (simp (disch := (first | exact hz _ _ | exact hv _ | exact hL | assumption | (simp (disch := decide) only [zup_ne]; exact hL) | (simp only [zR]; omega) | omega)) only [zLit, zI_div, hI_fs, hI_us, zI_add, zI_sub, zI_mul, zI_neg, zI_lt, zI_eq, zI_ite, xbd_s, zI_nat, zld, zst, zbd, zB_0, zB_1, lenX_s, zup_at, xgd, cond_true, cond_false, and_self, and_true, true_and, false_and, and_false, or_self, or_false, false_or, if_true, if_false, ite_true, ite_false, reduceIte, reduceCtorEq, Nat.reduceEqDiff, Nat.reduceAdd, Nat.reduceMul, Int.reduceNeg, Int.reduceAdd, Int.reduceSub, Int.reduceMul, Int.reduceLT, Int.reduceLE, Int.reduceEq, Int.reduceDiv, Int.reduceMod, Int.reduceToNat, Int.toNat_zero, Int.toNat_one, Nat.reduceLeDiff, Nat.reduceLT, ite_not, not_true, not_false_eq_true] <;> omega) | omega))) | (with_reducible apply hs_b; (case h => (simp (disch := (first | exact hz _ _ | exact hv _ | exact hL | assumption | (simp (disch := decide) only [zup_ne]; exact hL) | (simp only [zR]; omega) | omega)) only [zLit, zI_div, hI_fs, hI_us, zI_add, zI_sub, zI_mul, zI_neg, zI_lt, zI_eq, zI_ite, xbd_s, zI_nat, zld, zst, zbd, zB_0, zB_1, lenX_s, zup_at, xgd, cond_true, cond_false, and_self, and_true, true_and, false_and, and_false, or_self, or_false, false_or, if_true, if_false, ite_true, ite_false, reduceIte, reduceCtorEq, Nat.reduceEqDiff, Nat.reduceAdd, Nat.reduceMul, Int.reduceNeg, Int.reduceAdd, Int.reduceSub, Int.reduceMul, Int.reduceLT, Int.reduceLE, Int.reduceEq, Int.reduceDiv, Int.reduceMod, Int.reduceToNat, Int.toNat_zero, Int.toNat_one, Nat.reduceLeDiff, Nat.reduceLT, ite_not, not_true, not_false_eq_true, m_within]; rfl)); try dsimp only) | (with_reducible apply hs_c <;> intro q9 <;> (try simp (disch := (first | exact hz _ _ | exact hv _ | exact hL | assumption | (simp (disch := decide) only [zup_ne]; exact hL) | (simp only [zR]; omega) | omega)) only [zLit, zI_div, hI_fs, hI_us, zI_add, zI_sub, zI_mul, zI_neg, zI_lt, zI_eq, zI_ite, xbd_s, zI_nat, zld, zst, zbd, zB_0, zB_1, lenX_s, zup_at, xgd, cond_true, cond_false, and_self, and_true, true_and, false_and, and_false, or_self, or_false, false_or, if_true, if_false, ite_true, ite_false, reduceIte, reduceCtorEq, Nat.reduceEqDiff, Nat.reduceAdd, Nat.reduceMul, Int.reduceNeg, Int.reduceAdd, Int.reduceSub, Int.reduceMul, Int.reduceLT, Int.reduceLE, Int.reduceEq, Int.reduceDiv, Int.reduceMod, Int.reduceToNat, Int.toNat_zero, Int.toNat_one, Nat.reduceLeDiff, Nat.reduceLT, ite_not, not_true, not_false_eq_true] at q9)))
      simp only [zLit]
      exact E2
  · by_cases q1 : w = 1
    · subst q1
      refine xw_m (P := fun r z1 => ∃ A, BestF (z 101) A (z 101 11).toNat 0 ∧ r = A 0 ∧ fr [65] z z1) ?_ ?_
      · rw [e_X11_worth]
        repeat' (first | (with_reducible apply xw_f; (case h => (first | (simp (disch := (first | exact hz _ _ | exact hv _ | exact hL | assumption | (simp (disch := decide) only [zup_ne]; exact hL) | (simp only [zR]; omega) | omega)) only [zLit, zI_div, hI_fs, hI_us, zI_add, zI_sub, zI_mul, zI_neg, zI_lt, zI_eq, zI_ite, xbd_s, zI_nat, zld, zst, zbd, zB_0, zB_1, lenX_s, zup_at, xgd, cond_true, cond_false, and_self, and_true, true_and, false_and, and_false, or_self, or_false, false_or, if_true, if_false, ite_true, ite_false, reduceIte, reduceCtorEq, Nat.reduceEqDiff, Nat.reduceAdd, Nat.reduceMul, Int.reduceNeg, Int.reduceAdd, Int.reduceSub, Int.reduceMul, Int.reduceLT, Int.reduceLE, Int.reduceEq, Int.reduceDiv, Int.reduceMod, Int.reduceToNat, Int.toNat_zero, Int.toNat_one, Nat.reduceLeDiff, Nat.reduceLT, ite_not, not_true, not_false_eq_true] <;> omega) | omega))) | (with_reducible apply xw_t; (case h => (first | (simp (disch := (first | exact hz _ _ | exact hv _ | exact hL | assumption | (simp (disch := decide) only [zup_ne]; exact hL) | (simp only [zR]; omega) | omega)) only [zLit, zI_div, hI_fs, hI_us, zI_add, zI_sub, zI_mul, zI_neg, zI_lt, zI_eq, zI_ite, xbd_s, zI_nat, zld, zst, zbd, zB_0, zB_1, lenX_s, zup_at, xgd, cond_true, cond_false, and_self, and_true, true_and, false_and, and_false, or_self, or_false, false_or, if_true, if_false, ite_true, ite_false, reduceIte, reduceCtorEq, Nat.reduceEqDiff, Nat.reduceAdd, Nat.reduceMul, Int.reduceNeg, Int.reduceAdd, Int.reduceSub, Int.reduceMul, Int.reduceLT, Int.reduceLE, Int.reduceEq, Int.reduceDiv, Int.reduceMod, Int.reduceToNat, Int.toNat_zero, Int.toNat_one, Nat.reduceLeDiff, Nat.reduceLT, ite_not, not_true, not_false_eq_true] <;> omega) | omega))) | (with_reducible apply xw_b; (case h => (simp (disch := (first | exact hz _ _ | exact hv _ | exact hL | assumption | (simp (disch := decide) only [zup_ne]; exact hL) | (simp only [zR]; omega) | omega)) only [zLit, zI_div, hI_fs, hI_us, zI_add, zI_sub, zI_mul, zI_neg, zI_lt, zI_eq, zI_ite, xbd_s, zI_nat, zld, zst, zbd, zB_0, zB_1, lenX_s, zup_at, xgd, cond_true, cond_false, and_self, and_true, true_and, false_and, and_false, or_self, or_false, false_or, if_true, if_false, ite_true, ite_false, reduceIte, reduceCtorEq, Nat.reduceEqDiff, Nat.reduceAdd, Nat.reduceMul, Int.reduceNeg, Int.reduceAdd, Int.reduceSub, Int.reduceMul, Int.reduceLT, Int.reduceLE, Int.reduceEq, Int.reduceDiv, Int.reduceMod, Int.reduceToNat, Int.toNat_zero, Int.toNat_one, Nat.reduceLeDiff, Nat.reduceLT, ite_not, not_true, not_false_eq_true, c_within]; rfl)); try dsimp only) | (with_reducible apply xw_c <;> intro q9 <;> (try simp (disch := (first | exact hz _ _ | exact hv _ | exact hL | assumption | (simp (disch := decide) only [zup_ne]; exact hL) | (simp only [zR]; omega) | omega)) only [zLit, zI_div, hI_fs, hI_us, zI_add, zI_sub, zI_mul, zI_neg, zI_lt, zI_eq, zI_ite, xbd_s, zI_nat, zld, zst, zbd, zB_0, zB_1, lenX_s, zup_at, xgd, cond_true, cond_false, and_self, and_true, true_and, false_and, and_false, or_self, or_false, false_or, if_true, if_false, ite_true, ite_false, reduceIte, reduceCtorEq, Nat.reduceEqDiff, Nat.reduceAdd, Nat.reduceMul, Int.reduceNeg, Int.reduceAdd, Int.reduceSub, Int.reduceMul, Int.reduceLT, Int.reduceLE, Int.reduceEq, Int.reduceDiv, Int.reduceMod, Int.reduceToNat, Int.toNat_zero, Int.toNat_one, Nat.reduceLeDiff, Nat.reduceLT, ite_not, not_true, not_false_eq_true] at q9)))
        rw [e_X1_greatest]
        have B : xw (xbd (cM 58 10 [xR 17 64, xR 23 17] (hI z)) fun r1 h2 => if (0 : Int32) < 0 ∨ lenX 65 ≤ (0 : Int32).toNatClampNeg then none else (some (h2 65 (0 : Int32).toNatClampNeg, h2))) (fun r z1 => ∃ A, BestF (z 101) A (z 101 11).toNat 0 ∧ r = A 0 ∧ fr [65] z z1) := by
          refine xw_k (c_weigh 54 hz hT) ?_
          intro r z1 hr hz1 ⟨hA, f⟩
          simp only [zLit, lenX_s, zI_nat h0r, zld (show (0 : Int) ≤ 0 by omega)]
          rw [if_neg (by rw [zI_lt h0r h0r]; omega)]
          exact xw_ret (hz1 _ _) hz1 ⟨z1 65, hA, rfl, f⟩
        refine xw_k B ?_
        intro r z1 hr hz1 p
        exact xw_ret hr hz1 p
      · intro r z1 hr hz1 ⟨A, hA, e, f⟩
        have e1 : z1 101 = z 101 := f 101 rfl
        have inv : Inv z1 := Inv_scrC hI0 hz1 (fr_mono f rfl)
        have hz := hz1
        rw [e_X12_worth, show xF = 999999 + 1 from rfl, l_X12_worth_0]
        repeat' (first | (with_reducible apply xw_f; (case h => (first | (simp (disch := (first | exact hz _ _ | exact hv _ | exact hL | assumption | (simp (disch := decide) only [zup_ne]; exact hL) | (simp only [zR]; omega) | omega)) only [zLit, zI_div, hI_fs, hI_us, zI_add, zI_sub, zI_mul, zI_neg, zI_lt, zI_eq, zI_ite, xbd_s, zI_nat, zld, zst, zbd, zB_0, zB_1, lenX_s, zup_at, xgd, cond_true, cond_false, and_self, and_true, true_and, false_and, and_false, or_self, or_false, false_or, if_true, if_false, ite_true, ite_false, reduceIte, reduceCtorEq, Nat.reduceEqDiff, Nat.reduceAdd, Nat.reduceMul, Int.reduceNeg, Int.reduceAdd, Int.reduceSub, Int.reduceMul, Int.reduceLT, Int.reduceLE, Int.reduceEq, Int.reduceDiv, Int.reduceMod, Int.reduceToNat, Int.toNat_zero, Int.toNat_one, Nat.reduceLeDiff, Nat.reduceLT, ite_not, not_true, not_false_eq_true] <;> omega) | omega))) | (with_reducible apply xw_t; (case h => (first | (simp (disch := (first | exact hz _ _ | exact hv _ | exact hL | assumption | (simp (disch := decide) only [zup_ne]; exact hL) | (simp only [zR]; omega) | omega)) only [zLit, zI_div, hI_fs, hI_us, zI_add, zI_sub, zI_mul, zI_neg, zI_lt, zI_eq, zI_ite, xbd_s, zI_nat, zld, zst, zbd, zB_0, zB_1, lenX_s, zup_at, xgd, cond_true, cond_false, and_self, and_true, true_and, false_and, and_false, or_self, or_false, false_or, if_true, if_false, ite_true, ite_false, reduceIte, reduceCtorEq, Nat.reduceEqDiff, Nat.reduceAdd, Nat.reduceMul, Int.reduceNeg, Int.reduceAdd, Int.reduceSub, Int.reduceMul, Int.reduceLT, Int.reduceLE, Int.reduceEq, Int.reduceDiv, Int.reduceMod, Int.reduceToNat, Int.toNat_zero, Int.toNat_one, Nat.reduceLeDiff, Nat.reduceLT, ite_not, not_true, not_false_eq_true] <;> omega) | omega))) | (with_reducible apply xw_b; (case h => (simp (disch := (first | exact hz _ _ | exact hv _ | exact hL | assumption | (simp (disch := decide) only [zup_ne]; exact hL) | (simp only [zR]; omega) | omega)) only [zLit, zI_div, hI_fs, hI_us, zI_add, zI_sub, zI_mul, zI_neg, zI_lt, zI_eq, zI_ite, xbd_s, zI_nat, zld, zst, zbd, zB_0, zB_1, lenX_s, zup_at, xgd, cond_true, cond_false, and_self, and_true, true_and, false_and, and_false, or_self, or_false, false_or, if_true, if_false, ite_true, ite_false, reduceIte, reduceCtorEq, Nat.reduceEqDiff, Nat.reduceAdd, Nat.reduceMul, Int.reduceNeg, Int.reduceAdd, Int.reduceSub, Int.reduceMul, Int.reduceLT, Int.reduceLE, Int.reduceEq, Int.reduceDiv, Int.reduceMod, Int.reduceToNat, Int.toNat_zero, Int.toNat_one, Nat.reduceLeDiff, Nat.reduceLT, ite_not, not_true, not_false_eq_true, m_within]; rfl)); try dsimp only) | (with_reducible apply xw_c <;> intro q9 <;> (try simp (disch := (first | exact hz _ _ | exact hv _ | exact hL | assumption | (simp (disch := decide) only [zup_ne]; exact hL) | (simp only [zR]; omega) | omega)) only [zLit, zI_div, hI_fs, hI_us, zI_add, zI_sub, zI_mul, zI_neg, zI_lt, zI_eq, zI_ite, xbd_s, zI_nat, zld, zst, zbd, zB_0, zB_1, lenX_s, zup_at, xgd, cond_true, cond_false, and_self, and_true, true_and, false_and, and_false, or_self, or_false, false_or, if_true, if_false, ite_true, ite_false, reduceIte, reduceCtorEq, Nat.reduceEqDiff, Nat.reduceAdd, Nat.reduceMul, Int.reduceNeg, Int.reduceAdd, Int.reduceSub, Int.reduceMul, Int.reduceLT, Int.reduceLE, Int.reduceEq, Int.reduceDiv, Int.reduceMod, Int.reduceToNat, Int.toNat_zero, Int.toNat_one, Nat.reduceLeDiff, Nat.reduceLT, ite_not, not_true, not_false_eq_true] at q9)))
        refine xw_k (m_find 56 hz1 (z0 := z) (by rw [e1]; exact hT)) ?_
        intro r2 z2 hr2 hz2 ⟨hA2, f2⟩
        rw [e1] at hA2
        have hu := BestF_u hn7 hA hA2 (2 ^ (z 101 11).toNat : Int).toNat 0 (by omega) (by omega) (by omega)
        simp only [zLit, lenX_s, zI_nat h0r, zld (show (0 : Int) ≤ 0 by omega)]
        rw [if_neg (by rw [zI_lt h0r h0r]; omega)]
        exact xw_ret (hz2 _ _) hz2 ⟨by rw [e, hu], Inv_scrM (F := []) inv hz2 (fr_mono f2 rfl) (fun k _ => by rw [f2 100 rfl]) rfl rfl rfl rfl⟩
    · refine two_ro hI0 (-1) (by simp only [zR]; omega) ?_ ?_
      · rw [e_X11_worth]
        repeat' (first | (with_reducible apply hs_f; (case h => (first | (simp (disch := (first | exact hz _ _ | exact hv _ | exact hL | assumption | (simp (disch := decide) only [zup_ne]; exact hL) | (simp only [zR]; omega) | omega)) only [zLit, zI_div, hI_fs, hI_us, zI_add, zI_sub, zI_mul, zI_neg, zI_lt, zI_eq, zI_ite, xbd_s, zI_nat, zld, zst, zbd, zB_0, zB_1, lenX_s, zup_at, xgd, cond_true, cond_false, and_self, and_true, true_and, false_and, and_false, or_self, or_false, false_or, if_true, if_false, ite_true, ite_false, reduceIte, reduceCtorEq, Nat.reduceEqDiff, Nat.reduceAdd, Nat.reduceMul, Int.reduceNeg, Int.reduceAdd, Int.reduceSub, Int.reduceMul, Int.reduceLT, Int.reduceLE, Int.reduceEq, Int.reduceDiv, Int.reduceMod, Int.reduceToNat, Int.toNat_zero, Int.toNat_one, Nat.reduceLeDiff, Nat.reduceLT, ite_not, not_true, not_false_eq_true] <;> omega) | omega))) | (with_reducible apply hs_t; (case h => (first | (simp (disch := (first | exact hz _ _ | exact hv _ | exact hL | assumption | (simp (disch := decide) only [zup_ne]; exact hL) | (simp only [zR]; omega) | omega)) only [zLit, zI_div, hI_fs, hI_us, zI_add, zI_sub, zI_mul, zI_neg, zI_lt, zI_eq, zI_ite, xbd_s, zI_nat, zld, zst, zbd, zB_0, zB_1, lenX_s, zup_at, xgd, cond_true, cond_false, and_self, and_true, true_and, false_and, and_false, or_self, or_false, false_or, if_true, if_false, ite_true, ite_false, reduceIte, reduceCtorEq, Nat.reduceEqDiff, Nat.reduceAdd, Nat.reduceMul, Int.reduceNeg, Int.reduceAdd, Int.reduceSub, Int.reduceMul, Int.reduceLT, Int.reduceLE, Int.reduceEq, Int.reduceDiv, Int.reduceMod, Int.reduceToNat, Int.toNat_zero, Int.toNat_one, Nat.reduceLeDiff, Nat.reduceLT, ite_not, not_true, not_false_eq_true] <;> omega) | omega))) | (with_reducible apply hs_b; (case h => (simp (disch := (first | exact hz _ _ | exact hv _ | exact hL | assumption | (simp (disch := decide) only [zup_ne]; exact hL) | (simp only [zR]; omega) | omega)) only [zLit, zI_div, hI_fs, hI_us, zI_add, zI_sub, zI_mul, zI_neg, zI_lt, zI_eq, zI_ite, xbd_s, zI_nat, zld, zst, zbd, zB_0, zB_1, lenX_s, zup_at, xgd, cond_true, cond_false, and_self, and_true, true_and, false_and, and_false, or_self, or_false, false_or, if_true, if_false, ite_true, ite_false, reduceIte, reduceCtorEq, Nat.reduceEqDiff, Nat.reduceAdd, Nat.reduceMul, Int.reduceNeg, Int.reduceAdd, Int.reduceSub, Int.reduceMul, Int.reduceLT, Int.reduceLE, Int.reduceEq, Int.reduceDiv, Int.reduceMod, Int.reduceToNat, Int.toNat_zero, Int.toNat_one, Nat.reduceLeDiff, Nat.reduceLT, ite_not, not_true, not_false_eq_true, c_within]; rfl)); try dsimp only) | (with_reducible apply hs_c <;> intro q9 <;> (try simp (disch := (first | exact hz _ _ | exact hv _ | exact hL | assumption | (simp (disch := decide) only [zup_ne]; exact hL) | (simp only [zR]; omega) | omega)) only [zLit, zI_div, hI_fs, hI_us, zI_add, zI_sub, zI_mul, zI_neg, zI_lt, zI_eq, zI_ite, xbd_s, zI_nat, zld, zst, zbd, zB_0, zB_1, lenX_s, zup_at, xgd, cond_true, cond_false, and_self, and_true, true_and, false_and, and_false, or_self, or_false, false_or, if_true, if_false, ite_true, ite_false, reduceIte, reduceCtorEq, Nat.reduceEqDiff, Nat.reduceAdd, Nat.reduceMul, Int.reduceNeg, Int.reduceAdd, Int.reduceSub, Int.reduceMul, Int.reduceLT, Int.reduceLE, Int.reduceEq, Int.reduceDiv, Int.reduceMod, Int.reduceToNat, Int.toNat_zero, Int.toNat_one, Nat.reduceLeDiff, Nat.reduceLT, ite_not, not_true, not_false_eq_true] at q9)))
        all_goals first | rfl | omega | (simp (maxSteps := 3000000) (disch := (first | exact hz _ _ | exact hv _ | exact hL | assumption | (simp (disch := decide) only [zup_ne]; exact hL) | (simp only [zR]; omega) | omega)) only [zLit, zI_div, hI_fs, hI_us, zI_add, zI_sub, zI_mul, zI_neg, zI_lt, zI_eq, zI_ite, xbd_s, zI_nat, zld, zst, zbd, zB_0, zB_1, lenX_s, zup_at, xgd, cond_true, cond_false, and_self, and_true, true_and, false_and, and_false, or_self, or_false, false_or, if_true, if_false, ite_true, ite_false, reduceIte, reduceCtorEq, Nat.reduceEqDiff, Nat.reduceAdd, Nat.reduceMul, Int.reduceNeg, Int.reduceAdd, Int.reduceSub, Int.reduceMul, Int.reduceLT, Int.reduceLE, Int.reduceEq, Int.reduceDiv, Int.reduceMod, Int.reduceToNat, Int.toNat_zero, Int.toNat_one, Nat.reduceLeDiff, Nat.reduceLT, ite_not, not_true, not_false_eq_true]; done) | (simp (maxSteps := 3000000) (disch := (first | exact hz _ _ | exact hv _ | exact hL | assumption | (simp (disch := decide) only [zup_ne]; exact hL) | (simp only [zR]; omega) | omega)) only [zLit, zI_div, hI_fs, hI_us, zI_add, zI_sub, zI_mul, zI_neg, zI_lt, zI_eq, zI_ite, xbd_s, zI_nat, zld, zst, zbd, zB_0, zB_1, lenX_s, zup_at, xgd, cond_true, cond_false, and_self, and_true, true_and, false_and, and_false, or_self, or_false, false_or, if_true, if_false, ite_true, ite_false, reduceIte, reduceCtorEq, Nat.reduceEqDiff, Nat.reduceAdd, Nat.reduceMul, Int.reduceNeg, Int.reduceAdd, Int.reduceSub, Int.reduceMul, Int.reduceLT, Int.reduceLE, Int.reduceEq, Int.reduceDiv, Int.reduceMod, Int.reduceToNat, Int.toNat_zero, Int.toNat_one, Nat.reduceLeDiff, Nat.reduceLT, ite_not, not_true, not_false_eq_true]; rfl)
      · rw [e_X12_worth, show xF = 999999 + 1 from rfl, l_X12_worth_0]
        repeat' (first | (with_reducible apply hs_f; (case h => (first | (simp (disch := (first | exact hz _ _ | exact hv _ | exact hL | assumption | (simp (disch := decide) only [zup_ne]; exact hL) | (simp only [zR]; omega) | omega)) only [zLit, zI_div, hI_fs, hI_us, zI_add, zI_sub, zI_mul, zI_neg, zI_lt, zI_eq, zI_ite, xbd_s, zI_nat, zld, zst, zbd, zB_0, zB_1, lenX_s, zup_at, xgd, cond_true, cond_false, and_self, and_true, true_and, false_and, and_false, or_self, or_false, false_or, if_true, if_false, ite_true, ite_false, reduceIte, reduceCtorEq, Nat.reduceEqDiff, Nat.reduceAdd, Nat.reduceMul, Int.reduceNeg, Int.reduceAdd, Int.reduceSub, Int.reduceMul, Int.reduceLT, Int.reduceLE, Int.reduceEq, Int.reduceDiv, Int.reduceMod, Int.reduceToNat, Int.toNat_zero, Int.toNat_one, Nat.reduceLeDiff, Nat.reduceLT, ite_not, not_true, not_false_eq_true] <;> omega) | omega))) | (with_reducible apply hs_t; (case h => (first | (simp (disch := (first | exact hz _ _ | exact hv _ | exact hL | assumption | (simp (disch := decide) only [zup_ne]; exact hL) | (simp only [zR]; omega) | omega)) only [zLit, zI_div, hI_fs, hI_us, zI_add, zI_sub, zI_mul, zI_neg, zI_lt, zI_eq, zI_ite, xbd_s, zI_nat, zld, zst, zbd, zB_0, zB_1, lenX_s, zup_at, xgd, cond_true, cond_false, and_self, and_true, true_and, false_and, and_false, or_self, or_false, false_or, if_true, if_false, ite_true, ite_false, reduceIte, reduceCtorEq, Nat.reduceEqDiff, Nat.reduceAdd, Nat.reduceMul, Int.reduceNeg, Int.reduceAdd, Int.reduceSub, Int.reduceMul, Int.reduceLT, Int.reduceLE, Int.reduceEq, Int.reduceDiv, Int.reduceMod, Int.reduceToNat, Int.toNat_zero, Int.toNat_one, Nat.reduceLeDiff, Nat.reduceLT, ite_not, not_true, not_false_eq_true] <;> omega) | omega))) | (with_reducible apply hs_b; (case h => (simp (disch := (first | exact hz _ _ | exact hv _ | exact hL | assumption | (simp (disch := decide) only [zup_ne]; exact hL) | (simp only [zR]; omega) | omega)) only [zLit, zI_div, hI_fs, hI_us, zI_add, zI_sub, zI_mul, zI_neg, zI_lt, zI_eq, zI_ite, xbd_s, zI_nat, zld, zst, zbd, zB_0, zB_1, lenX_s, zup_at, xgd, cond_true, cond_false, and_self, and_true, true_and, false_and, and_false, or_self, or_false, false_or, if_true, if_false, ite_true, ite_false, reduceIte, reduceCtorEq, Nat.reduceEqDiff, Nat.reduceAdd, Nat.reduceMul, Int.reduceNeg, Int.reduceAdd, Int.reduceSub, Int.reduceMul, Int.reduceLT, Int.reduceLE, Int.reduceEq, Int.reduceDiv, Int.reduceMod, Int.reduceToNat, Int.toNat_zero, Int.toNat_one, Nat.reduceLeDiff, Nat.reduceLT, ite_not, not_true, not_false_eq_true, m_within]; rfl)); try dsimp only) | (with_reducible apply hs_c <;> intro q9 <;> (try simp (disch := (first | exact hz _ _ | exact hv _ | exact hL | assumption | (simp (disch := decide) only [zup_ne]; exact hL) | (simp only [zR]; omega) | omega)) only [zLit, zI_div, hI_fs, hI_us, zI_add, zI_sub, zI_mul, zI_neg, zI_lt, zI_eq, zI_ite, xbd_s, zI_nat, zld, zst, zbd, zB_0, zB_1, lenX_s, zup_at, xgd, cond_true, cond_false, and_self, and_true, true_and, false_and, and_false, or_self, or_false, false_or, if_true, if_false, ite_true, ite_false, reduceIte, reduceCtorEq, Nat.reduceEqDiff, Nat.reduceAdd, Nat.reduceMul, Int.reduceNeg, Int.reduceAdd, Int.reduceSub, Int.reduceMul, Int.reduceLT, Int.reduceLE, Int.reduceEq, Int.reduceDiv, Int.reduceMod, Int.reduceToNat, Int.toNat_zero, Int.toNat_one, Nat.reduceLeDiff, Nat.reduceLT, ite_not, not_true, not_false_eq_true] at q9)))
        all_goals first | rfl | omega | (simp (maxSteps := 3000000) (disch := (first | exact hz _ _ | exact hv _ | exact hL | assumption | (simp (disch := decide) only [zup_ne]; exact hL) | (simp only [zR]; omega) | omega)) only [zLit, zI_div, hI_fs, hI_us, zI_add, zI_sub, zI_mul, zI_neg, zI_lt, zI_eq, zI_ite, xbd_s, zI_nat, zld, zst, zbd, zB_0, zB_1, lenX_s, zup_at, xgd, cond_true, cond_false, and_self, and_true, true_and, false_and, and_false, or_self, or_false, false_or, if_true, if_false, ite_true, ite_false, reduceIte, reduceCtorEq, Nat.reduceEqDiff, Nat.reduceAdd, Nat.reduceMul, Int.reduceNeg, Int.reduceAdd, Int.reduceSub, Int.reduceMul, Int.reduceLT, Int.reduceLE, Int.reduceEq, Int.reduceDiv, Int.reduceMod, Int.reduceToNat, Int.toNat_zero, Int.toNat_one, Nat.reduceLeDiff, Nat.reduceLT, ite_not, not_true, not_false_eq_true]; done) | (simp (maxSteps := 3000000) (disch := (first | exact hz _ _ | exact hv _ | exact hL | assumption | (simp (disch := decide) only [zup_ne]; exact hL) | (simp only [zR]; omega) | omega)) only [zLit, zI_div, hI_fs, hI_us, zI_add, zI_sub, zI_mul, zI_neg, zI_lt, zI_eq, zI_ite, xbd_s, zI_nat, zld, zst, zbd, zB_0, zB_1, lenX_s, zup_at, xgd, cond_true, cond_false, and_self, and_true, true_and, false_and, and_false, or_self, or_false, false_or, if_true, if_false, ite_true, ite_false, reduceIte, reduceCtorEq, Nat.reduceEqDiff, Nat.reduceAdd, Nat.reduceMul, Int.reduceNeg, Int.reduceAdd, Int.reduceSub, Int.reduceMul, Int.reduceLT, Int.reduceLE, Int.reduceEq, Int.reduceDiv, Int.reduceMod, Int.reduceToNat, Int.toNat_zero, Int.toNat_one, Nat.reduceLeDiff, Nat.reduceLT, ite_not, not_true, not_false_eq_true]; rfl)
