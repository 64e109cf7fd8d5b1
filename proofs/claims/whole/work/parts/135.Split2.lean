/-! PURE, part 65: the class parts the tape, whole -/
theorem c_digits_l (d : Nat) {z : zH} (hz : zRR z) {T : Int → Int} {n : Int} (hn : 0 ≤ n ∧ n ≤ 240) (e1 : z 55 1 = n) (e56 : z 56 = T) {e : Int} (he : e ≤ n) : ∀ (m : Nat) (p a : Int), 0 ≤ p → p + m = e → ∀ N, m < N → r_X9_digits (d + 1) N 9 [some (xR 25 55), none, some (xI (zI e)), some (xI (zI a)), some (xI (zI p))] [] (hI z) = some (zI (dgF T m p a), hI z) := by
  intro m
  induction m with
  | zero =>
    intro p a p0 pe N hN
    obtain ⟨N, rfl⟩ := Nat.exists_eq_succ_of_ne_zero (show N ≠ 0 by omega)
    rw [l_X9_digits_9, if_neg (by rw [zI_lt (zR_s (by omega)) (zR_s (by omega))]; omega)]
    rfl
  | succ m ih =>
    intro p a p0 pe N hN
    obtain ⟨N, rfl⟩ := Nat.exists_eq_succ_of_ne_zero (show N ≠ 0 by omega)
    have ca := fun d => c_at d hz hn e1 e56 (p := p) ⟨p0, by omega⟩
    rw [l_X9_digits_9, if_pos (by rw [zI_lt (zR_s (by omega)) (zR_s (by omega))]; omega), if_pos (show zI p < hI z 55 1 by rw [(hI_fs z 55).2.1, e1, zI_lt (zR_s (by omega)) (zR_s (by omega))]; omega)]
    simp only [ca, xbd_n, zLit]
    rw [if_pos (show p < n by omega)]
    simp only [zI_mul, zI_add, zI_sub]
    exact ih (p + 1) _ (by omega) (by omega) N (by omega)
theorem c_digits (d : Nat) {z : zH} (hz : zRR z) {T : Int → Int} {n : Int} (hn : 0 ≤ n ∧ n ≤ 240) (e1 : z 55 1 = n) (e56 : z 56 = T) {p e : Int} (hp : 0 ≤ p ∧ p ≤ e ∧ e ≤ n) : cM (d + 2) 75 [xR 25 55, xI (zI p), xI (zI e)] (hI z) = some (zI (dgF T (e - p).toNat p 0), hI z) := by
  rw [e_X9_digits, show xF = 999999 + 1 from rfl, l_X9_digits_0]
  simp only [zLit]
  rw [if_neg (show ¬ zI p < zI 0 by rw [zI_lt (zR_s (by omega)) (zR_s (by omega))]; omega)]
  exact c_digits_l d hz hn e1 e56 hp.2.2 (e - p).toNat p 0 hp.1 (by omega) 999999 (by omega)
abbrev zadd (z : zH) (k p kk w : Int) : zH := zup (zup (zup (zup z 61 k p) 62 k kk) 63 k w) 55 6 (k + 1)
theorem c_tadd (d : Nat) {z : zH} (hz : zRR z) {k p kk w : Int} (e6 : z 55 6 = k) (hk : 0 ≤ k ∧ k ≤ 240) : cM (d + 1) 71 [xR 25 55, xI (zI p), xI (zI kk), xI (zI w)] (hI z) = some (zI 0, hI (zadd z k p kk w)) := by
  have kr : zR k := zR_s (by omega)
  have b := bnd (a := k) (n := 241) hk.1 (by omega) (by omega)
  rw [e_X9_add]
  simp only [zLit, lenX_s, hI_fs, e6, if_neg b]
  rw [if_neg (by rw [zI_lt (zR_s (by omega)) kr]; omega)]
  simp only [zI_nat kr, zst hk.1, hI_us, zI_add]
def SpI (T : Int → Int) (n : Int) (z0 z : zH) (k : Nat) : Prop := z 55 6 = k ∧ (∀ j : Nat, j < k → (z 61 j = stN T n j ∧ z 62 j = kd T n (stN T n j) ∧ (kd T n (stN T n j) ≠ 4 → z 63 j = wt T n (stN T n j))) ∧ stN T n j < n) ∧ fr [55, 61, 62, 63] z0 z ∧ ∀ q, q ≠ 6 → z 55 q = z0 55 q
def CT (T : Int → Int) (n : Int) (z : zH) (m : Nat) : Prop := z 55 6 = m + 1 ∧ ∀ j : Nat, j ≤ m → z 61 j = stN T n j ∧ z 62 j = kd T n (stN T n j) ∧ (kd T n (stN T n j) ≠ 4 → z 63 j = wt T n (stN T n j))
theorem zadd_at (z : zH) (k p kk w : Int) : (∀ j, zadd z k p kk w 61 j = if j = k then p else z 61 j) ∧ (∀ j, zadd z k p kk w 62 j = if j = k then kk else z 62 j) ∧ (∀ j, zadd z k p kk w 63 j = if j = k then w else z 63 j) ∧ zadd z k p kk w 55 6 = k + 1 ∧ ∀ q, q ≠ 6 → zadd z k p kk w 55 q = z 55 q := by
  refine ⟨fun j => ?_, fun j => ?_, fun j => ?_, ?_, fun q hq => ?_⟩
  · simp only [zadd, zup_at, Nat.reduceEqDiff, false_and, true_and, if_false]
  · simp only [zadd, zup_at, Nat.reduceEqDiff, false_and, true_and, if_false]
  · simp only [zadd, zup_at, Nat.reduceEqDiff, false_and, true_and, if_false]
  · simp only [zadd, zup_at, and_self, if_true]
  · simp only [zadd, zup_at, Nat.reduceEqDiff, false_and, true_and, if_false, if_neg hq]
theorem SpI_add {T : Int → Int} {n : Int} {z0 z : zH} {k : Nat} (h : SpI T n z0 z k) {w : Int} (hw : kd T n (stN T n k) ≠ 4 → w = wt T n (stN T n k)) (hs : stN T n k < n) : SpI T n z0 (zadd z k (stN T n k) (kd T n (stN T n k)) w) (k + 1) := by
  obtain ⟨h1, h2, h3, h4⟩ := h
  obtain ⟨a1, a2, a3, a4, a5⟩ := zadd_at z k (stN T n k) (kd T n (stN T n k)) w
  refine ⟨by rw [a4]; omega, fun j hj => ?_, fr_up (fr_up (fr_up (fr_up h3 _ _ rfl) _ _ rfl) _ _ rfl) _ _ rfl, fun q hq => by rw [a5 q hq]; exact h4 q hq⟩
  rw [a1, a2, a3]
  by_cases e : j = k
  · subst e
    rw [if_pos rfl, if_pos rfl, if_pos rfl]
    exact ⟨⟨rfl, rfl, hw⟩, hs⟩
  · rw [if_neg (by omega), if_neg (by omega), if_neg (by omega)]
    exact h2 j (by omega)
def PSp (T : Int → Int) (n : Int) (z0 z' : zH) : Prop := ∃ m : Nat, CT T n z' m ∧ Tks T n m ∧ fr [55, 61, 62, 63] z0 z' ∧ ∀ q, q ≠ 6 → z' 55 q = z0 55 q
theorem c_split_e (d : Nat) {z0 z : zH} (hz : zRR z) {T : Int → Int} {n : Int} (hn : 0 ≤ n ∧ n ≤ 240) (e1 : z 55 1 = n) {k : Nat} (hk : k ≤ 240) (hS : SpI T n z0 z k) {p : Int} (hp : n ≤ p) (hs : sk T n p = stN T n k) (hpn : p ≤ n) : xw (xbd (cM (d + 1) 71 [xR 25 55, xI (hI z 55 1), xI (zI 0), xI (zI 0)] (hI z)) fun r9 h10 => some (zI 0, h10)) (fun _ z' => PSp T n z0 z') := by
  have e6 : z 55 6 = k := hS.1
  have ca := fun d => c_tadd d hz (k := k) (p := n) (kk := 0) (w := 0) e6 (by omega)
  have ep : stN T n k = n := by rw [← hs, sk_e hp]; omega
  obtain ⟨a1, a2, a3, a4, a5⟩ := zadd_at z k n 0 0
  have h0r : zR 0 := zR_s (by omega)
  simp only [hI_fs, e1]
  simp only [ca, xbd_n]
  refine xw_ret h0r (zRR_up (zRR_up (zRR_up (zRR_up hz _ _ (zR_s (by omega))) _ _ h0r) _ _ h0r) _ _ (zR_s (by omega))) ⟨k, ⟨a4, fun j hj => ?_⟩, ⟨hn, hk, ep, fun j hj => (hS.2.1 j hj).2⟩, fr_up (fr_up (fr_up (fr_up hS.2.2.1 _ _ rfl) _ _ rfl) _ _ rfl) _ _ rfl, fun q hq => by rw [a5 q hq]; exact hS.2.2.2 q hq⟩
  rw [a1, a2, a3]
  by_cases e : j = k
  · subst e
    rw [if_pos rfl, if_pos rfl, if_pos rfl, ep]
    refine ⟨rfl, (kd_0.mpr (Int.le_refl _)).symm, fun _ => ?_⟩
    unfold wt
    rw [if_pos (Int.le_refl _)]
  · rw [if_neg (by omega), if_neg (by omega), if_neg (by omega)]
    exact (hS.2.1 j (by omega)).1
theorem c_run46 (d : Nat) {z : zH} (hz : zRR z) {T : Int → Int} {n : Int} (hT : tpB T n) (e1 : z 55 1 = n) (e56 : z 56 = T) {p i E : Int} (hp : 0 ≤ p) {Q : Int → zH → Prop} (N0 : Nat) (cont : ∀ N, N0 ≤ N → xw (xbd (cM (d + 2) 76 [xR 25 55, xI (zI p), xI (zI E)] (hI z)) fun r5 h6 => xbd (cM (d + 2) 71 [xR 25 55, xI (zI p), xI (zI 1), xI r5] h6) fun r7 h8 => r_X9_split (d + 2) N 9 [some (xR 25 55), some (xI (zI E)), some (xI (zI (i + 1))), none, none, none] [] h8) Q) : ∀ (g : Nat) (e x : Int), 0 ≤ x → x + g = 240 → p ≤ e → e ≤ n → rl T n 97 122 g e = E → ∀ N, N0 + g < N → xw (r_X9_split (d + 2) N 46 [some (xR 25 55), some (xI (zI p)), some (xI (zI i)), some (xI (zI e)), none, some (xI (zI x))] [] (hI z)) Q := by
  have hn := hT.1
  intro g
  induction g with
  | zero =>
    intro e x x0 xg pe en hE N hN
    obtain ⟨N, rfl⟩ := Nat.exists_eq_succ_of_ne_zero (show N ≠ 0 by omega)
    have ee : e = E := hE
    subst ee
    rw [l_X9_split_46]
    simp only [zLit, zI_add]
    rw [if_neg (by rw [zI_lt (zR_s (by omega)) (zR_s (by omega))]; omega)]
    exact cont N (by omega)
  | succ g ih =>
    intro e x x0 xg pe en hE N hN
    obtain ⟨N, rfl⟩ := Nat.exists_eq_succ_of_ne_zero (show N ≠ 0 by omega)
    have ca := fun d => c_at d hz hn e1 e56 (p := e) ⟨by omega, by omega⟩
    have cl := fun d h => c_isLet d (c := if e < n then T e else -1) (by
      by_cases q : e < n
      · rw [if_pos q]; have := hT.2 e (by omega) q; exact zR_s (by omega)
      · rw [if_neg q]; exact zR_s (by omega)) h
    rw [l_X9_split_46]
    simp only [zLit, zI_add]
    rw [if_pos (by rw [zI_lt (zR_s (by omega)) (zR_s (by omega))]; omega)]
    simp only [ca, xbd_n]
    simp only [cl, xbd_n, zB_0]
    unfold rl at hE
    by_cases q : e < n ∧ 97 ≤ T e ∧ T e ≤ 122
    · rw [if_pos q] at hE
      rw [if_pos q.1, if_neg (fun w => w q.2)]
      exact ih (e + 1) (x + 1) (by omega) (by omega) (by omega) (by omega) hE N (by omega)
    · rw [if_neg q] at hE
      subst hE
      rw [if_pos (by
        intro w
        by_cases y : e < n
        · rw [if_pos y] at w; exact q ⟨y, w⟩
        · rw [if_neg y] at w; omega)]
      exact cont N (by omega)
theorem c_run100 (d : Nat) {z : zH} (hz : zRR z) {T : Int → Int} {n : Int} (hT : tpB T n) (e1 : z 55 1 = n) (e56 : z 56 = T) {p i E : Int} (hp : 0 ≤ p) (hE0 : p ≤ E ∧ E ≤ n) {Q : Int → zH → Prop} (N0 : Nat) (cont : ∀ N, N0 ≤ N → xw (xbd (cM (d + 2) 75 [xR 25 55, xI (zI p), xI (zI E)] (hI z)) fun r5 h6 => xbd (cM (d + 2) 71 [xR 25 55, xI (zI p), xI (zI (if E - p ≤ 3 then 2 else 4)), xI r5] h6) fun r7 h8 => r_X9_split (d + 2) N 9 [some (xR 25 55), some (xI (zI E)), some (xI (zI (i + 1))), none, none, none] [] h8) Q) : ∀ (g : Nat) (e x : Int), 0 ≤ x → x + g = 240 → p ≤ e → e ≤ n → rl T n 48 57 g e = E → ∀ N, N0 + g < N → xw (r_X9_split (d + 2) N 100 [some (xR 25 55), some (xI (zI p)), some (xI (zI i)), some (xI (zI e)), none, some (xI (zI x))] [] (hI z)) Q := by
  have hn := hT.1
  have cont2 : ∀ N, N0 ≤ N → xw (if zI 3 < zI (E - p) then (xbd (cM (d + 2) 75 [xR 25 55, xI (zI p), xI (zI E)] (hI z)) fun r5 h6 => xbd (cM (d + 2) 71 [xR 25 55, xI (zI p), xI (zI 4), xI r5] h6) fun r7 h8 => r_X9_split (d + 2) N 9 [some (xR 25 55), some (xI (zI E)), some (xI (zI (i + 1))), none, none, none] [] h8) else (xbd (cM (d + 2) 75 [xR 25 55, xI (zI p), xI (zI E)] (hI z)) fun r5 h6 => xbd (cM (d + 2) 71 [xR 25 55, xI (zI p), xI (zI 2), xI r5] h6) fun r7 h8 => r_X9_split (d + 2) N 9 [some (xR 25 55), some (xI (zI E)), some (xI (zI (i + 1))), none, none, none] [] h8)) Q := by
    intro N hN
    have c := cont N hN
    by_cases q : E - p ≤ 3
    · rw [if_pos q] at c
      rw [if_neg (by rw [zI_lt (zR_s (by omega)) (zR_s (by omega))]; omega)]
      exact c
    · rw [if_neg q] at c
      rw [if_pos (by rw [zI_lt (zR_s (by omega)) (zR_s (by omega))]; omega)]
      exact c
  intro g
  induction g with
  | zero =>
    intro e x x0 xg pe en hE N hN
    obtain ⟨N, rfl⟩ := Nat.exists_eq_succ_of_ne_zero (show N ≠ 0 by omega)
    have ee : e = E := hE
    subst ee
    rw [l_X9_split_100]
    simp only [zLit, zI_add, zI_sub]
    rw [if_neg (by rw [zI_lt (zR_s (by omega)) (zR_s (by omega))]; omega)]
    exact cont2 N (by omega)
  | succ g ih =>
    intro e x x0 xg pe en hE N hN
    obtain ⟨N, rfl⟩ := Nat.exists_eq_succ_of_ne_zero (show N ≠ 0 by omega)
    have ca := fun d => c_at d hz hn e1 e56 (p := e) ⟨by omega, by omega⟩
    have cl := fun d h => c_isDig d (c := if e < n then T e else -1) (by
      by_cases q : e < n
      · rw [if_pos q]; have := hT.2 e (by omega) q; exact zR_s (by omega)
      · rw [if_neg q]; exact zR_s (by omega)) h
    rw [l_X9_split_100]
    simp only [zLit, zI_add, zI_sub]
    rw [if_pos (by rw [zI_lt (zR_s (by omega)) (zR_s (by omega))]; omega)]
    simp only [ca, xbd_n]
    simp only [cl, xbd_n, zB_0]
    unfold rl at hE
    by_cases q : e < n ∧ 48 ≤ T e ∧ T e ≤ 57
    · rw [if_pos q] at hE
      rw [if_pos q.1, if_neg (fun w => w q.2)]
      exact ih (e + 1) (x + 1) (by omega) (by omega) (by omega) (by omega) hE N (by omega)
    · rw [if_neg q] at hE
      subst hE
      rw [if_pos (by
        intro w
        by_cases y : e < n
        · rw [if_pos y] at w; exact q ⟨y, w⟩
        · rw [if_neg y] at w; omega)]
      exact cont2 N (by omega)
