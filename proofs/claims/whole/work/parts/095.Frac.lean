/-! PURE, part 25: fractions -/
def spGcd : Nat → Int → Int → Int
  | 0, x, _ => x
  | n + 1, x, y => if y = 0 then x else spGcd n y (x % y)
/-- Euclid ends, so soon -/
def gEnd : Nat → Int → Int → Prop
  | 0, _, y => y = 0
  | n + 1, x, y => y = 0 ∨ gEnd n y (x % y)
theorem gEnd_mono : ∀ (n : Nat) (x y : Int), gEnd n x y → gEnd (n + 1) x y := by
  intro n
  induction n with
  | zero => intro x y h; left; exact h
  | succ n ih =>
    intro x y h
    rcases h with h | h
    · left; exact h
    · right; exact ih _ _ h
theorem gEnd_le {n : Nat} : ∀ (m : Nat) (x y : Int), gEnd n x y → gEnd (n + m) x y := by
  intro m
  induction m with
  | zero => intro x y h; exact h
  | succ m ih => intro x y h; exact gEnd_mono _ _ _ (ih x y h)
theorem gEnd_pow : ∀ (k : Nat) (x y : Int), 0 ≤ x → 0 ≤ y → y < 2 ^ k → gEnd (2 * k) x y := by
  intro k
  induction k with
  | zero => intro x y hx hy h; have : (2 : Int) ^ 0 = 1 := rfl; rw [this] at h; show y = 0; omega
  | succ k ih =>
    intro x y hx hy h
    rw [Int.pow_succ] at h
    show gEnd (2 * k + 2) x y
    by_cases q : y = 0
    · left; exact q
    · right
      have r0 := Int.emod_nonneg x q
      have r1 := Int.emod_lt_of_pos x (show 0 < y by omega)
      generalize x % y = r at *
      show gEnd (2 * k + 1) y r
      by_cases q2 : r = 0
      · left; exact q2
      · right
        have s0 := Int.emod_nonneg y q2
        have s1 := Int.emod_lt_of_pos y (show 0 < r by omega)
        have s2 : y % r < 2 ^ k := by
          by_cases w : 2 * r ≤ y
          · omega
          · have e : y % r = y - r := by
              rw [← Int.sub_emod_right]
              exact Int.emod_eq_of_lt (by omega) (by omega)
            rw [e]
            omega
        exact ih r (y % r) (by omega) s0 s2
theorem spGcd_st : ∀ (n m : Nat) (x y : Int), gEnd n x y → spGcd (n + m) x y = spGcd n x y := by
  intro n
  induction n with
  | zero =>
    intro m x y h
    have h : y = 0 := h
    subst h
    cases m with
    | zero => rfl
    | succ m => rw [Nat.zero_add, spGcd, if_pos rfl]; rfl
  | succ n ih =>
    intro m x y h
    rw [show n + 1 + m = n + m + 1 by omega, spGcd, spGcd]
    by_cases q : y = 0
    · rw [if_pos q, if_pos q]
    · rw [if_neg q, if_neg q]
      rcases h with h | h
      · exact absurd h q
      · exact ih m y (x % y) h
theorem spGcd_pos : ∀ (n : Nat) (x y : Int), 0 < x → 0 ≤ y → gEnd n x y → 0 < spGcd n x y ∧ (y ≠ 0 → spGcd n x y ≤ y) ∧ spGcd n x y ≤ x := by
  intro n
  induction n with
  | zero => intro x y hx hy h; exact ⟨hx, fun w => absurd h w, Int.le_refl _⟩
  | succ n ih =>
    intro x y hx hy h
    rw [spGcd]
    by_cases q : y = 0
    · rw [if_pos q]; exact ⟨hx, fun w => absurd q w, Int.le_refl _⟩
    · rw [if_neg q]
      rcases h with h | h
      · exact absurd h q
      · have r0 := Int.emod_nonneg x q
        have r1 := Int.emod_lt_of_pos x (show 0 < y by omega)
        obtain ⟨a, b, c⟩ := ih y (x % y) (by omega) r0 h
        refine ⟨a, fun _ => c, ?_⟩
        by_cases w : x % y = 0
        · have : y ≤ x := by
            have := Int.emod_add_mul_ediv x y
            rw [w] at this
            have h2 : x / y ≠ 0 := by intro e; rw [e] at this; simp at this; omega
            have h3 := Int.ediv_nonneg (show 0 ≤ x by omega) hy
            have h4 : y * 1 ≤ y * (x / y) := Int.mul_le_mul_of_nonneg_left (by omega) hy
            omega
          omega
        · have hb := b w
          have h3 := Int.emod_le x (show 0 ≤ x by omega) y
          sorry
