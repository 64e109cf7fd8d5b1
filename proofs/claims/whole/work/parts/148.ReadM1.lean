/-! PURE, part 78: the model reads a text -/
def LCm (z : zH) (c : Nat) (L : LnT) (q : Int) : Prop := ∀ k : Nat, k < c → z 112 (3 * (k : Int)) = (L k).1 ∧ has (z 113) (z 112 (3 * (k : Int) + 1)) (L k).2.2 ∧ z 112 (3 * (k : Int) + 2) = z 112 (3 * (k : Int) + 1) + (L k).2.2.length ∧ 0 ≤ z 112 (3 * (k : Int) + 1) ∧ z 112 (3 * (k : Int) + 2) ≤ q
def FRd (z0 z : zH) : Prop := fr [100, 112, 113] z0 z ∧ ff [19, 20, 21, 22, 23, 24, 25] z0 z
theorem FRd_tr {z z1 z2 : zH} (h : FRd z z1) (k : FRd z1 z2) : FRd z z2 := ⟨fr_tr h.1 k.1 rfl, ff_tr h.2 k.2 rfl⟩
theorem FM_Rd {q : Int} {z z' : zH} (h : FM q z z') : FRd z z' := ⟨fr_mono h.1 rfl, ff_mono h.2.1 rfl⟩
/-- what reading makes of the model -/
def PRd (T : Int → Int) (n : Int) (z0 : zH) (R : Bool × Nat × LnT × Nat) (r : Int) (z' : zH) : Prop := (R.1 = true → r = R.2.2.2 ∧ ∃ q zl, LCm zl R.2.2.2 R.2.2.1 q ∧ 2 * q ≤ 240 ∧ 0 ≤ q ∧ R.2.2.2 ≤ 9 ∧ ∀ k, z' 101 k = if k = 14 then q else if k = 10 then (R.2.2.2 : Int) else if 323 ≤ k ∧ k < 323 + 160 then zl 113 (k - 323) else if 296 ≤ k ∧ k < 296 + 27 then zl 112 (k - 296) else z0 101 k) ∧ (R.1 ≠ true → r = -100 - stN T n R.2.1 ∧ z' 101 = z0 101) ∧ z' 100 4 = 0 ∧ fr [100, 101, 112, 113] z0 z' ∧ ff [4, 19, 20, 21, 22, 23, 24, 25] z0 z'
def zof (z : zH) (a b : Nat) (off n : Int) : zH := fun p q => if p = b ∧ off ≤ q ∧ q < off + n then z a (q - off) else z p q
theorem zof_0 (z : zH) (a b : Nat) (off : Int) : zof z a b off 0 = z := by
  funext p q
  unfold zof
  rw [if_neg (by omega)]
theorem zof_ne (z : zH) {a b p : Nat} (off n : Int) (h : p ≠ b) : zof z a b off n p = z p := by
  funext q
  unfold zof
  rw [if_neg (fun e => h e.1)]
theorem zof_up (z : zH) {a b : Nat} (off : Int) {n : Int} (hn : 0 ≤ n) : zup (zof z a b off n) b (off + n) (z a n) = zof z a b off (n + 1) := by
  funext p q
  rw [zup_at]
  unfold zof
  by_cases e : p = b ∧ q = off + n
  · rw [if_pos e, if_pos ⟨e.1, by omega, by omega⟩, e.2, show off + n - off = n by omega]
  · rw [if_neg e]
    by_cases w : p = b ∧ off ≤ q ∧ q < off + n
    · rw [if_pos w, if_pos ⟨w.1, w.2.1, by omega⟩]
    · rw [if_neg w, if_neg (fun x => by
        by_cases y : q = off + n
        · exact e ⟨x.1, y⟩
        · exact w ⟨x.1, x.2.1, by omega⟩)]
theorem zRR_of {z : zH} (hz : zRR z) (a b : Nat) (off n : Int) : zRR (zof z a b off n) := by
  intro p q
  unfold zof
  split <;> exact hz _ _
theorem m_cp193 (d : Nat) {z : zH} : ∀ (m : Nat) (k : Int), 0 ≤ k → k + m = 27 → ∀ N, r_X12_read d (N + 1 + m) 193 [some (xR 28 100), none, some (xI (zI k))] [] (hI (zof z 112 101 296 k)) = r_X12_read d N 223 [some (xR 28 100), none, some (xI (zI 0))] [] (hI (zof z 112 101 296 27)) := by
  intro m
  induction m with
  | zero =>
    intro k k0 k1 N
    have e : k = 27 := by omega
    subst e
    rw [show N + 1 + 0 = N + 1 from rfl, l_X12_read_193]
    simp only [zLit]
    rw [if_neg (by decide)]
  | succ m ih =>
    intro k k0 k1 N
    have kr : zR k := zR_s (by omega)
    have kr2 : zR (296 + k) := zR_s (by omega)
    have l112 : lenX 112 = 27 := by decide +kernel
    have b1 := bnd (a := k) (n := 27) k0 (by omega) (by omega)
    have b2 := bnd (a := 296 + k) (n := 572) (by omega) (by omega) (by omega)
    have ek : hI (zof z 112 101 296 k) 112 (zI k).toNatClampNeg = zI (z 112 k) := by rw [zI_nat kr, zld k0, zof_ne _ _ _ (by decide)]
    rw [show N + 1 + (m + 1) = (N + 1 + m) + 1 by omega, l_X12_read_193]
    simp only [zLit, l112, lenX_s, if_neg b1, zI_add, if_neg b2, ek]
    simp only [zI_nat kr2, zst (show 0 ≤ 296 + k by omega), zof_up z 296 k0]
    rw [if_pos (by rw [zI_lt kr (zR_s (by omega))]; omega)]
    exact ih (k + 1) (by omega) (by omega) N
theorem m_cp223 (d : Nat) {z : zH} (hz : zRR z) {c q : Int} (h25 : z 100 25 = c) (h24 : z 100 24 = q) : ∀ (m : Nat) (k : Int), 0 ≤ k → k + m = 160 → ∀ N, r_X12_read d (N + 1 + m) 223 [some (xR 28 100), none, some (xI (zI k))] [] (hI (zof z 113 101 323 k)) = some (zI c, hI (zup (zup (zof z 113 101 323 160) 101 10 c) 101 14 q)) := by
  have r10 : zR 10 := zR_s (by omega)
  have r14 : zR 14 := zR_s (by omega)
  have b10 := bnd (a := 10) (n := 572) (by omega) (by omega) (by omega)
  have b14 := bnd (a := 14) (n := 572) (by omega) (by omega) (by omega)
  intro m
  induction m with
  | zero =>
    intro k k0 k1 N
    have e : k = 160 := by omega
    subst e
    have e25 : zof z 113 101 323 160 100 25 = c := by rw [zof_ne _ _ _ (by decide)]; exact h25
    have e24 : zof z 113 101 323 160 100 24 = q := by rw [zof_ne _ _ _ (by decide)]; exact h24
    rw [show N + 1 + 0 = N + 1 from rfl, l_X12_read_223]
    simp only [zLit, lenX_s, if_neg b10, if_neg b14, hI_fs, e25, e24]
    rw [if_neg (by decide)]
    simp only [zI_nat r10, zI_nat r14, zst (show (0 : Int) ≤ 10 by omega), zst (show (0 : Int) ≤ 14 by omega)]
  | succ m ih =>
    intro k k0 k1 N
    have kr : zR k := zR_s (by omega)
    have kr2 : zR (323 + k) := zR_s (by omega)
    have l113 : lenX 113 = 160 := by decide +kernel
    have b1 := bnd (a := k) (n := 160) k0 (by omega) (by omega)
    have b2 := bnd (a := 323 + k) (n := 572) (by omega) (by omega) (by omega)
    have ek : hI (zof z 113 101 323 k) 113 (zI k).toNatClampNeg = zI (z 113 k) := by rw [zI_nat kr, zld k0, zof_ne _ _ _ (by decide)]
    rw [show N + 1 + (m + 1) = (N + 1 + m) + 1 by omega, l_X12_read_223]
    simp only [zLit, l113, lenX_s, if_neg b1, zI_add, if_neg b2, ek]
    simp only [zI_nat kr2, zst (show 0 ≤ 323 + k by omega), zof_up z 323 k0]
    rw [if_pos (by rw [zI_lt kr (zR_s (by omega))]; omega)]
    exact ih (k + 1) (by omega) (by omega) N
theorem m_rdX (d N : Nat) {z : zH} {p : Int} (h22 : z 100 22 = 1) (h19 : z 100 19 = p) : r_X12_read d (N + 1) 29 [some (xR 28 100), none, none] [] (hI z) = some (zI (-100 - p), hI (zup z 100 4 0)) := by
  have n10 : ¬ zI 1 = zI 0 := by decide
  rw [l_X12_read_29]
  simp only [zLit, hI_fs, h22, h19, if_neg n10, zI_neg, zI_sub, hI_us]
theorem PRd_X {T : Int → Int} {n : Int} {z0 z : zH} (hF : FRd z0 z) {L : LnT} {c i : Nat} : PRd T n z0 (false, i, L, c) (-100 - stN T n i) (zup z 100 4 0) := by
  refine ⟨(fun w => by cases w), fun _ => ⟨rfl, by rw [zup_ne _ _ _ (by decide)]; exact hF.1 101 rfl⟩, by rw [zup_at, if_pos ⟨rfl, rfl⟩], fr_up (fr_mono hF.1 rfl) _ _ rfl, ff_up (ff_mono hF.2 rfl) _ rfl⟩
theorem m_rdOk (d : Nat) {T : Int → Int} {n : Int} (hn : n ≤ 240) {z0 z : zH} (hz : zRR z) (hF : FRd z0 z) {L : LnT} {c i : Nat} {q : Int} (h25 : z 100 25 = c) (h24 : z 100 24 = q) (hL : LCm z c L q) (hq : 0 ≤ q ∧ 2 * q ≤ n) (hc : c ≤ 9) (N : Nat) (hN : 300 < N) : xw (r_X12_read d N 193 [some (xR 28 100), none, some (xI (zI 0))] [] (hI (zup z 100 4 0))) (PRd T n z0 (true, i, L, c)) := by
  obtain ⟨N, rfl⟩ : ∃ M, N = (M + 1 + 160) + 1 + 27 := ⟨N - 189, by omega⟩
  have c1 := m_cp193 d (z := zup z 100 4 0) 27 0 (by omega) (by omega) (N + 1 + 160)
  rw [zof_0] at c1
  rw [c1]
  obtain ⟨z2, e2⟩ : ∃ z2, z2 = zof (zup z 100 4 0) 112 101 296 27 := ⟨_, rfl⟩
  rw [← e2]
  have hz1 : zRR (zup z 100 4 0) := zRR_up hz _ _ (zR_s (by omega))
  have hz2 : zRR z2 := by rw [e2]; exact zRR_of hz1 _ _ _ _
  have k25 : z2 100 25 = c := by rw [e2, zof_ne _ _ _ (by decide), zup_at, if_neg (by omega)]; exact h25
  have k24 : z2 100 24 = q := by rw [e2, zof_ne _ _ _ (by decide), zup_at, if_neg (by omega)]; exact h24
  have c2 := m_cp223 d hz2 k25 k24 160 0 (by omega) (by omega) N
  rw [zof_0] at c2
  rw [c2]
  refine xw_ret (zR_s (by omega)) (zRR_up (zRR_up (zRR_of hz2 _ _ _ _) _ _ (zR_s (by omega))) _ _ (zR_s (by omega))) ⟨fun _ => ⟨rfl, q, z, hL, by omega, hq.1, hc, fun k => ?_⟩, fun w => absurd rfl w, ?_, ?_, ?_⟩
  · rw [zup_at]
    by_cases a : k = 14
    · rw [if_pos ⟨rfl, a⟩, if_pos a]
    · rw [if_neg (fun x => a x.2), if_neg a, zup_at]
      by_cases b : k = 10
      · rw [if_pos ⟨rfl, b⟩, if_pos b]
      · rw [if_neg (fun x => b x.2), if_neg b]
        unfold zof
        by_cases e : 323 ≤ k ∧ k < 323 + 160
        · rw [if_pos ⟨rfl, e⟩, if_pos e, e2, zof_ne _ _ _ (by decide), zup_ne _ _ _ (by decide)]
        · rw [if_neg (fun x => e x.2), if_neg e, e2]
          unfold zof
          by_cases g : 296 ≤ k ∧ k < 296 + 27
          · rw [if_pos ⟨rfl, g⟩, if_pos g, zup_ne _ _ _ (by decide)]
          · rw [if_neg (fun x => g x.2), if_neg g, zup_ne _ _ _ (by decide), hF.1 101 rfl]
  · rw [zup_ne _ _ _ (by decide), zup_ne _ _ _ (by decide), zof_ne _ _ _ (by decide), e2, zof_ne _ _ _ (by decide), zup_at, if_pos ⟨rfl, rfl⟩]
  · refine fr_up (fr_up ?_ _ _ rfl) _ _ rfl
    intro o ho
    have h101 : o ≠ 101 := by intro x; rw [x] at ho; cases ho
    have h100 : o ≠ 100 := by intro x; rw [x] at ho; cases ho
    rw [zof_ne _ _ _ h101, e2, zof_ne _ _ _ h101, zup_ne _ _ _ h100]
    exact fr_mono hF.1 (T := [100, 101, 112, 113]) rfl o ho
  · refine ff_ne (ff_ne ?_ _ _ (by decide)) _ _ (by decide)
    intro k hk
    rw [zof_ne _ _ _ (by decide), e2, zof_ne _ _ _ (by decide)]
    exact ff_up (ff_mono hF.2 (T := [4, 19, 20, 21, 22, 23, 24, 25]) rfl) _ rfl k hk
