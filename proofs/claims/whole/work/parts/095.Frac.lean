/-! PURE, part 25: fractions -/
def spGcd : Nat → Int → Int → Int
  | 0, x, _ => x
  | n + 1, x, y => if y = 0 then x else spGcd n y (x % y)
/-- Euclid ends, so soon -/
def gEnd : Nat → Int → Int → Prop
  | 0, _, y => y = 0
  | n + 1, x, y => y = 0 ∨ gEnd n y (x % y)
theorem gEnd_mono : ∀ (n : Nat) (x y : Int), gEnd n x y → gEnd (n + 1) x y := by
  intro n
  induction n with
  | zero => intro x y h; left; exact h
  | succ n ih =>
    intro x y h
    rcases h with h | h
    · left; exact h
    · right; exact ih _ _ h
theorem gEnd_le {n : Nat} : ∀ (m : Nat) (x y : Int), gEnd n x y → gEnd (n + m) x y := by
  intro m
  induction m with
  | zero => intro x y h; exact h
  | succ m ih => intro x y h; exact gEnd_mono _ _ _ (ih x y h)
theorem gEnd_pow : ∀ (k : Nat) (x y : Int), 0 ≤ x → 0 ≤ y → y < 2 ^ k → gEnd (2 * k) x y := by
  intro k
  induction k with
  | zero => intro x y hx hy h; have : (2 : Int) ^ 0 = 1 := rfl; rw [this] at h; show y = 0; omega
  | succ k ih =>
    intro x y hx hy h
    rw [Int.pow_succ] at h
    show gEnd (2 * k + 2) x y
    by_cases q : y = 0
    · left; exact q
    · right
      have r0 := Int.emod_nonneg x q
      have r1 := Int.emod_lt_of_pos x (show 0 < y by omega)
      generalize x % y = r at *
      show gEnd (2 * k + 1) y r
      by_cases q2 : r = 0
      · left; exact q2
      · right
        have s0 := Int.emod_nonneg y q2
        have s1 := Int.emod_lt_of_pos y (show 0 < r by omega)
        have s2 : y % r < 2 ^ k := by
          by_cases w : 2 * r ≤ y
          · omega
          · have e : y % r = y - r := by
              rw [← Int.sub_emod_right]
              exact Int.emod_eq_of_lt (by omega) (by omega)
            rw [e]
            omega
        exact ih r (y % r) (by omega) s0 s2
theorem spGcd_st : ∀ (n m : Nat) (x y : Int), gEnd n x y → spGcd (n + m) x y = spGcd n x y := by
  intro n
  induction n with
  | zero =>
    intro m x y h
    have h : y = 0 := h
    subst h
    cases m with
    | zero => rfl
    | succ m => rw [Nat.zero_add, spGcd, spGcd, if_pos rfl]
  | succ n ih =>
    intro m x y h
    rw [show n + 1 + m = n + m + 1 by omega, spGcd, spGcd]
    by_cases q : y = 0
    · rw [if_pos q, if_pos q]
    · rw [if_neg q, if_neg q]
      rcases h with h | h
      · exact absurd h q
      · exact ih m y (x % y) h
theorem spGcd_pos : ∀ (n : Nat) (x y : Int), 0 < x → 0 ≤ y → 0 < spGcd n x y ∧ ∀ b, x ≤ b → y ≤ b → spGcd n x y ≤ b := by
  intro n
  induction n with
  | zero => intro x y hx hy; exact ⟨hx, fun b hb _ => hb⟩
  | succ n ih =>
    intro x y hx hy
    rw [spGcd]
    by_cases q : y = 0
    · rw [if_pos q]; exact ⟨hx, fun b hb _ => hb⟩
    · rw [if_neg q]
      have r0 := Int.emod_nonneg x q
      have r1 := Int.emod_lt_of_pos x (show 0 < y by omega)
      obtain ⟨a, c⟩ := ih y (x % y) (by omega) r0
      exact ⟨a, fun b hb hc => c b hc (by omega)⟩
theorem spGcd_sw {n : Nat} {a b : Int} (ha : 0 ≤ a) (hb : 0 < b) (h1 : gEnd n b a) (h2 : gEnd n a b) : spGcd (n + 1) b a = spGcd (n + 1) a b := by
  by_cases q : a < b
  · have e : spGcd (n + 1) a b = spGcd n b a := by
      rw [spGcd, if_neg (by omega), Int.emod_eq_of_lt ha q]
    rw [e, spGcd_st n 1 b a h1]
  · by_cases q2 : a = b
    · rw [q2]
    · have e : spGcd (n + 1) b a = spGcd n a b := by
        rw [spGcd, if_neg (by omega), Int.emod_eq_of_lt (by omega) (by omega)]
      rw [e, spGcd_st n 1 a b h2]
theorem c_frac_l (d : Nat) {a b p : Int} {h : xH} (ha : 0 ≤ a ∧ a < 2147483648) (hb : 0 < b ∧ b < 2147483648) (hp : p = 0 ∨ p = 1) : ∀ (m : Nat) (x y i : Int), 0 < x → x < 2147483648 → 0 ≤ y → y < 2147483648 → gEnd m x y → 0 ≤ i → i + m ≤ 100 → ∀ n, m < n → r_X11_ofFraction d n 8 [some (xI (zI a)), some (xI (zI b)), some (xI (zI p)), some (xI (zI x)), some (xI (zI y)), some (xI (zI i)), none] [] h = some (zI (if p = 0 then a / spGcd m x y else b / spGcd m x y), h) := by
  have fin : ∀ x : Int, 0 < x → x < 2147483648 → (if zI x = zI 0 then some (zI 0, h) else if zI p = zI 0 then (if zI x = zI 0 then none else some (zI a / zI x, h)) else if zI x = zI 0 then none else some (zI b / zI x, h)) = some (zI (if p = 0 then a / x else b / x), h) := by
    intro x h0 h1
    have hx : zR x := by simp only [zR]; omega
    have h00 : zR 0 := by simp only [zR]; omega
    have har : zR a := by simp only [zR]; omega
    have hbr : zR b := by simp only [zR]; omega
    have w : ¬ zI x = zI 0 := by rw [zI_eq hx h00]; omega
    simp only [if_neg w, zI_div har ha.1 h0 hx, zI_div hbr (show 0 ≤ b by omega) h0 hx]
    rcases hp with e | e <;> subst e
    · rw [if_pos rfl, if_pos rfl]
    · rw [if_neg (by decide), if_neg (by decide)]
  intro m
  induction m with
  | zero =>
    intro x y i x0 x1 y0 y1 g i0 i1 n hn
    obtain ⟨n, rfl⟩ := Nat.exists_eq_succ_of_ne_zero (show n ≠ 0 by omega)
    have g : y = 0 := g
    subst g
    rw [l_X11_ofFraction_8]
    simp only [zLit]
    rw [fin x x0 x1]
    by_cases w : zI i < zI 100
    · rw [if_pos w, if_pos trivial]; rfl
    · rw [if_neg w]; rfl
  | succ m ih =>
    intro x y i x0 x1 y0 y1 g i0 i1 n hn
    obtain ⟨n, rfl⟩ := Nat.exists_eq_succ_of_ne_zero (show n ≠ 0 by omega)
    have hx : zR x := by simp only [zR]; omega
    have hy : zR y := by simp only [zR]; omega
    have h00 : zR 0 := by simp only [zR]; omega
    rw [l_X11_ofFraction_8]
    simp only [zLit]
    rw [fin x x0 x1, if_pos (by rw [zI_lt (zR_s (by omega)) (zR_s (by omega))]; omega)]
    by_cases q : y = 0
    · rw [if_pos (by rw [q]), spGcd, if_pos q]
    · rcases g with g | g
      · exact absurd g q
      · have r0 := Int.emod_nonneg x q
        have r1 := Int.emod_lt_of_pos x (show 0 < y by omega)
        rw [if_neg (by rw [zI_eq hy h00]; exact q), if_neg (by rw [zI_eq hy h00]; exact q), spGcd, if_neg q, zI_rem hx (by omega) (by omega) hy, zI_add]
        exact ih y (x % y) (i + 1) (by omega) y1 r0 (by omega) g (by omega) (by omega) n (by omega)
theorem m_div_l (d : Nat) {h : xH} : ∀ (m : Nat) (x y : Int), 0 ≤ x → x < 2147483648 → 0 ≤ y → y < 2147483648 → gEnd m x y → ∀ n, m < n → r_X12_divisor d n 4 [none, none, some (xI (zI x)), some (xI (zI y)), none] [] h = some (zI (spGcd m x y), h) := by
  intro m
  induction m with
  | zero =>
    intro x y x0 x1 y0 y1 g n hn
    obtain ⟨n, rfl⟩ := Nat.exists_eq_succ_of_ne_zero (show n ≠ 0 by omega)
    have g : y = 0 := g
    subst g
    rw [l_X12_divisor_4]
    simp only [zLit]
    rw [if_pos trivial]
    rfl
  | succ m ih =>
    intro x y x0 x1 y0 y1 g n hn
    obtain ⟨n, rfl⟩ := Nat.exists_eq_succ_of_ne_zero (show n ≠ 0 by omega)
    have hx : zR x := by simp only [zR]; omega
    have hy : zR y := by simp only [zR]; omega
    have h00 : zR 0 := by simp only [zR]; omega
    rw [l_X12_divisor_4]
    simp only [zLit]
    by_cases q : y = 0
    · rw [if_pos (by rw [q]), spGcd, if_pos q]
    · rcases g with g | g
      · exact absurd g q
      · have r0 := Int.emod_nonneg x q
        have r1 := Int.emod_lt_of_pos x (show 0 < y by omega)
        rw [if_neg (by rw [zI_eq hy h00]; exact q), if_neg (by rw [zI_eq hy h00]; exact q), spGcd, if_neg q, zI_rem hx (by omega) (by omega) hy]
        exact ih y (x % y) (by omega) y1 r0 (by omega) g n (by omega)
def spPart (a b p : Int) : Int := if p = 0 then a / spGcd 63 a b else b / spGcd 63 a b
theorem gEnd_31 {x y : Int} (hx : 0 ≤ x) (hy : 0 ≤ y ∧ y < 2147483648) : gEnd 62 x y := gEnd_pow 31 x y hx hy.1 (by rw [show (2 : Int) ^ 31 = 2147483648 from by decide]; exact hy.2)
theorem c_frac (d : Nat) {a b p : Int} (h : xH) (ha : 0 ≤ a ∧ a < 2147483648) (hb : 0 < b ∧ b < 2147483648) (hp : p = 0 ∨ p = 1) : cM (d + 1) 152 [xI (zI a), xI (zI b), xI (zI p)] h = some (zI (spPart a b p), h) := by
  have g1 := gEnd_31 (x := b) (y := a) (by omega) ha
  have g2 := gEnd_31 (x := a) (y := b) ha.1 ⟨by omega, hb.2⟩
  rw [e_X11_ofFraction, show xF = 999999 + 1 from rfl, l_X11_ofFraction_0]
  have e := c_frac_l d (h := h) ha hb hp 63 b a 0 hb.1 hb.2 ha.1 ha.2 (gEnd_mono _ _ _ g1) (by omega) (by omega) 999999 (by omega)
  rw [spGcd_sw (n := 62) ha.1 hb.1 g1 g2] at e
  simp only [zLit]
  exact e
theorem spPart_b {a b p : Int} (ha : 0 ≤ a ∧ a < 2147483648) (hb : 0 < b ∧ b < 2147483648) : zR (spPart a b p) := by
  have g1 := gEnd_31 (x := b) (y := a) (by omega) ha
  have g2 := gEnd_31 (x := a) (y := b) ha.1 ⟨by omega, hb.2⟩
  have e := spGcd_sw (n := 62) ha.1 hb.1 g1 g2
  have w := (spGcd_pos 63 b a hb.1 ha.1).1
  unfold spPart
  rw [← e]
  generalize spGcd 63 b a = g at *
  have h1 := Int.ediv_nonneg ha.1 (show 0 ≤ g by omega)
  have h2 := Int.ediv_le_self g ha.1
  have h3 := Int.ediv_nonneg (show 0 ≤ b by omega) (show 0 ≤ g by omega)
  have h4 := Int.ediv_le_self g (show 0 ≤ b by omega)
  simp only [zR]
  split <;> omega
theorem m_part (d : Nat) {a b p : Int} (h : xH) (ha : 0 ≤ a ∧ a < 2147483648) (hb : 0 < b ∧ b < 2147483648) (hp : p = 0 ∨ p = 1) : cM (d + 2) 202 [xI (zI a), xI (zI b), xI (zI p)] h = some (zI (spPart a b p), h) := by
  have g1 := gEnd_31 (x := b) (y := a) (by omega) ha
  have g2 := gEnd_31 (x := a) (y := b) ha.1 ⟨by omega, hb.2⟩
  have sw := spGcd_sw (n := 62) ha.1 hb.1 g1 g2
  have w := spGcd_pos 63 b a hb.1 ha.1
  have e := m_div_l d (h := h) 63 a b ha.1 ha.2 (by omega) hb.2 (gEnd_mono _ _ _ g2) 999999 (by omega)
  have e2 : cM (d + 1) 201 [xI (zI a), xI (zI b)] h = some (zI (spGcd 63 a b), h) := by
    rw [e_X12_divisor, show xF = 999999 + 1 from rfl, l_X12_divisor_0]
    exact e
  unfold spPart
  rw [sw] at w
  have wb := w.2 2147483647 (by omega) (by omega)
  have w0 := w.1
  generalize spGcd 63 a b = g at *
  have hg : zR g := by simp only [zR]; omega
  have h00 : zR 0 := by simp only [zR]; omega
  have har : zR a := by simp only [zR]; omega
  have hbr : zR b := by simp only [zR]; omega
  rw [e_X12_part]
  simp only [e2, xbd_s, zLit, zI_div har ha.1 w0 hg, zI_div hbr (by omega) w0 hg]
  have w : ¬ zI g = zI 0 := by rw [zI_eq hg h00]; omega
  simp only [if_neg w]
  rcases hp with e | e <;> subst e
  · rw [if_pos rfl, if_pos rfl]
  · rw [if_neg (by decide), if_neg (by decide)]
