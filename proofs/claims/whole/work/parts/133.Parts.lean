/-! PURE, part 63: a tape's parts, in thought -/
def rl (T : Int → Int) (n lo hi : Int) : Nat → Int → Int
  | 0, e => e
  | f + 1, e => if e < n ∧ lo ≤ T e ∧ T e ≤ hi then rl T n lo hi f (e + 1) else e
theorem rl_b (T : Int → Int) (n lo hi : Int) : ∀ (f : Nat) (e : Int), e ≤ n → e ≤ rl T n lo hi f e ∧ rl T n lo hi f e ≤ n := by
  intro f
  induction f with
  | zero => intro e h; exact ⟨Int.le_refl _, h⟩
  | succ f ih =>
    intro e h
    unfold rl
    split
    · have := ih (e + 1) (by omega); omega
    · omega
theorem rl_in (T : Int → Int) (n lo hi : Int) : ∀ (f : Nat) (e j : Int), e ≤ j → j < rl T n lo hi f e → lo ≤ T j ∧ T j ≤ hi := by
  intro f
  induction f with
  | zero => intro e j h0 h1; unfold rl at h1; omega
  | succ f ih =>
    intro e j h0 h1
    unfold rl at h1
    split at h1
    · rename_i q
      by_cases w : j = e
      · subst w; exact q.2
      · exact ih (e + 1) j (by omega) h1
    · omega
theorem rl_st (T : Int → Int) (n lo hi : Int) : ∀ (f g : Nat) (e : Int), n ≤ e + f → n ≤ e + g → rl T n lo hi f e = rl T n lo hi g e := by
  intro f
  induction f with
  | zero =>
    intro g e h0 h1
    cases g with
    | zero => rfl
    | succ g => unfold rl; rw [if_neg (by omega)]
  | succ f ih =>
    intro g e h0 h1
    cases g with
    | zero => unfold rl; rw [if_neg (by omega)]
    | succ g =>
      unfold rl
      rw [ih g (e + 1) (by omega) (by omega)]
def sk (T : Int → Int) (n : Int) (p : Int) : Int := rl T n 32 32 240 p
theorem sk_n {T : Int → Int} {n p : Int} (h : T p ≠ 32) : sk T n p = p := by
  unfold sk
  rw [show (240 : Nat) = 239 + 1 from rfl, rl, if_neg (by omega)]
theorem sk_e {T : Int → Int} {n p : Int} (h : n ≤ p) : sk T n p = p := by
  unfold sk
  rw [show (240 : Nat) = 239 + 1 from rfl, rl, if_neg (by omega)]
theorem sk_y {T : Int → Int} {n p : Int} (hp : 0 ≤ p ∧ p < n) (hn : n ≤ 240) (h : T p = 32) : sk T n p = sk T n (p + 1) := by
  unfold sk
  rw [show (240 : Nat) = 239 + 1 from rfl, rl, if_pos (by omega)]
  exact rl_st T n 32 32 239 240 (p + 1) (by omega) (by omega)
abbrev isL (c : Int) : Prop := 97 ≤ c ∧ c ≤ 122
abbrev isD (c : Int) : Prop := 48 ≤ c ∧ c ≤ 57
/-- the end of the part that begins at p -/
def rn (T : Int → Int) (n p : Int) : Int := if n ≤ p then p else if isL (T p) then rl T n 97 122 240 (p + 1) else if isD (T p) then rl T n 48 57 240 (p + 1) else p + 1
theorem rn_b {T : Int → Int} {n p : Int} (h : p < n) : p < rn T n p ∧ rn T n p ≤ n := by
  unfold rn
  have a := rl_b T n 97 122 240 (p + 1) (by omega)
  have b := rl_b T n 48 57 240 (p + 1) (by omega)
  split
  · omega
  · split
    · omega
    · split <;> omega
def stN (T : Int → Int) (n : Int) : Nat → Int
  | 0 => sk T n 0
  | k + 1 => sk T n (rn T n (stN T n k))
abbrev St (T : Int → Int) (n i : Int) : Int := stN T n i.toNat
theorem stN_b {T : Int → Int} {n : Int} (hn : 0 ≤ n) : ∀ k : Nat, 0 ≤ stN T n k ∧ stN T n k ≤ n := by
  intro k
  induction k with
  | zero => have := rl_b T n 32 32 240 0 hn; unfold stN sk; omega
  | succ k ih =>
    have e : rn T n (stN T n k) ≤ n ∧ 0 ≤ rn T n (stN T n k) := by
      by_cases q : stN T n k < n
      · have := rn_b (T := T) q; omega
      · unfold rn; rw [if_pos (by omega)]; omega
    have := rl_b T n 32 32 240 (rn T n (stN T n k)) e.1
    unfold stN sk
    omega
theorem stN_s {T : Int → Int} {n : Int} (hn : 0 ≤ n) {k : Nat} (h : stN T n k < n) : rn T n (stN T n k) ≤ stN T n (k + 1) := by
  have := rn_b (T := T) h
  have := rl_b T n 32 32 240 (rn T n (stN T n k)) (by omega)
  show _ ≤ sk T n _
  unfold sk
  omega
/-- a word at p, up to e -/
def eqW (T : Int → Int) : List Int → Int → Int → Bool
  | [], p, e => decide (p = e)
  | c :: cs, p, e => decide (p < e ∧ T p = c) && eqW T cs (p + 1) e
theorem eqW_u {T : Int → Int} {e : Int} : ∀ (w1 w2 : List Int) (p : Int), eqW T w1 p e = true → eqW T w2 p e = true → w1 = w2 := by
  intro w1
  induction w1 with
  | nil =>
    intro w2 p h1 h2
    cases w2 with
    | nil => rfl
    | cons c cs =>
      simp only [eqW, decide_eq_true_eq, Bool.and_eq_true] at h1 h2
      omega
  | cons c cs ih =>
    intro w2 p h1 h2
    cases w2 with
    | nil =>
      simp only [eqW, decide_eq_true_eq, Bool.and_eq_true] at h1 h2
      omega
    | cons c' cs' =>
      simp only [eqW, decide_eq_true_eq, Bool.and_eq_true] at h1 h2
      rw [ih cs' (p + 1) h1.2 h2.2, ← h1.1.2, ← h2.1.2]
theorem eqW_len {T : Int → Int} {e : Int} : ∀ (w : List Int) (p : Int), eqW T w p e = true → e = p + w.length := by
  intro w
  induction w with
  | nil => intro p h; simp only [eqW, decide_eq_true_eq] at h; simp only [List.length_nil]; omega
  | cons c cs ih =>
    intro p h
    simp only [eqW, decide_eq_true_eq, Bool.and_eq_true] at h
    have := ih (p + 1) h.2
    simp only [List.length_cons]
    omega
def fnd (T : Int → Int) : List (List Int) → Int → Int → Int → Int
  | [], _, _, _ => 15
  | w :: ws, k, p, e => if eqW T w p e = true then k else fnd T ws (k + 1) p e
theorem fnd_b {T : Int → Int} {p e : Int} : ∀ (ws : List (List Int)) (k : Int), k + ws.length ≤ 15 → k ≤ fnd T ws k p e ∧ fnd T ws k p e ≤ 15 := by
  intro ws
  induction ws with
  | nil => intro k h; simp only [List.length_nil] at h; unfold fnd; omega
  | cons w ws ih =>
    intro k h
    simp only [List.length_cons] at h
    have := ih (k + 1) (by omega)
    unfold fnd
    split <;> omega
theorem fnd_i {T : Int → Int} {p e : Int} : ∀ (ws : List (List Int)) (k : Int), ws.Nodup → k + ws.length ≤ 15 → ∀ (j : Nat) (w : List Int), ws[j]? = some w → (fnd T ws k p e = k + j ↔ eqW T w p e = true) := by
  intro ws
  induction ws with
  | nil => intro k _ _ j w h; simp at h
  | cons a ws ih =>
    intro k hn h j w hj
    simp only [List.length_cons] at h
    have nd := List.nodup_cons.mp hn
    have b := fnd_b (T := T) (p := p) (e := e) ws (k + 1) (by omega)
    unfold fnd
    cases j with
    | zero =>
      have e1 : a = w := by simpa using hj
      subst e1
      by_cases q : eqW T a p e = true
      · rw [if_pos q]; exact ⟨fun _ => q, fun _ => by omega⟩
      · rw [if_neg q]; exact ⟨fun x => by omega, fun x => absurd x q⟩
    | succ j =>
      have hj' : ws[j]? = some w := by simpa using hj
      by_cases q : eqW T a p e = true
      · rw [if_pos q]
        refine ⟨fun x => by omega, fun x => ?_⟩
        have := eqW_u a w p q x
        subst this
        exact absurd (List.mem_of_getElem? hj') nd.1
      · rw [if_neg q]
        have := ih (k + 1) nd.2 (by omega) j w hj'
        rw [← this]
        omega
def WDS : List (List Int) := [[108, 101, 102, 116], [114, 105, 103, 104, 116], [115, 108, 111, 119, 101, 114], [102, 97, 115, 116, 101, 114], [105, 102], [111, 114], [97, 110, 100], [110, 111, 116], [104, 101, 105, 103, 104, 116], [115, 112, 101, 101, 100], [104, 101, 97, 100, 105, 110, 103], [116, 105, 99, 107], [103, 114, 111, 117, 110, 100], [104, 111, 117, 115, 101, 115], [99, 108, 101, 97, 114]]
abbrev wdI (T : Int → Int) (p e : Int) : Int := fnd T WDS 0 p e
theorem wdI_b (T : Int → Int) (p e : Int) : 0 ≤ wdI T p e ∧ wdI T p e ≤ 15 := fnd_b WDS 0 (by decide)
theorem wdI_i (T : Int → Int) (p e : Int) {j : Nat} {w : List Int} (h : WDS[j]? = some w) : (wdI T p e = j ↔ eqW T w p e = true) := by
  have := fnd_i (T := T) (p := p) (e := e) WDS 0 (by decide) (by decide) j w h
  rw [Int.zero_add] at this
  exact this
def dgF (T : Int → Int) : Nat → Int → Int → Int
  | 0, _, a => a
  | m + 1, p, a => dgF T m (p + 1) (a * 10 + T p - 48)
theorem dgF_3 {T : Int → Int} : ∀ (m : Nat) (p a : Int), (∀ j, p ≤ j → j < p + m → 48 ≤ T j ∧ T j ≤ 57) → 0 ≤ a → 0 ≤ dgF T m p a ∧ dgF T m p a < (a + 1) * 10 ^ m := by
  intro m
  induction m with
  | zero => intro p a _ h; unfold dgF; simp; omega
  | succ m ih =>
    intro p a h ha
    have d := h p (by omega) (by omega)
    have w := ih (p + 1) (a * 10 + T p - 48) (fun j j0 j1 => h j (by omega) (by omega)) (by omega)
    unfold dgF
    refine ⟨w.1, Int.lt_of_lt_of_le w.2 ?_⟩
    rw [Int.pow_succ, show (a + 1) * (10 ^ m * 10) = ((a + 1) * 10) * 10 ^ m by rw [Int.mul_comm (10 ^ m) 10, Int.mul_assoc]]
    exact Int.mul_le_mul_of_nonneg_right (by omega) (Int.le_of_lt (Int.pow_pos (by decide)))
/-- the kind of a part that begins at p; its word, number or byte -/
def kd (T : Int → Int) (n p : Int) : Int := if n ≤ p then 0 else if isL (T p) then 1 else if isD (T p) then (if rn T n p - p ≤ 3 then 2 else 4) else 3
def wt (T : Int → Int) (n p : Int) : Int := if n ≤ p then 0 else if isL (T p) then wdI T p (rn T n p) else if isD (T p) then dgF T (rn T n p - p).toNat p 0 else T p
theorem kd_0 {T : Int → Int} {n p : Int} : kd T n p = 0 ↔ n ≤ p := by
  unfold kd
  constructor
  · intro h
    by_cases q : n ≤ p
    · exact q
    · rw [if_neg q] at h
      split at h
      · omega
      · split at h
        · split at h <;> omega
        · omega
  · intro h; rw [if_pos h]
theorem kd_2 {T : Int → Int} {n p : Int} (hn : n ≤ 240) (h : kd T n p = 2) : p < n ∧ isD (T p) ∧ rn T n p - p ≤ 3 ∧ wt T n p = dgF T (rn T n p - p).toNat p 0 ∧ 0 ≤ wt T n p ∧ wt T n p ≤ 999 := by
  unfold kd at h
  by_cases q : n ≤ p
  · rw [if_pos q] at h; omega
  · rw [if_neg q] at h
    by_cases w : isL (T p)
    · rw [if_pos w] at h; omega
    · rw [if_neg w] at h
      by_cases x : isD (T p)
      · rw [if_pos x] at h
        by_cases y : rn T n p - p ≤ 3
        · have ew : wt T n p = dgF T (rn T n p - p).toNat p 0 := by unfold wt; rw [if_neg q, if_neg w, if_pos x]
          have rb := rn_b (T := T) (n := n) (p := p) (by omega)
          have er : rn T n p = rl T n 48 57 240 (p + 1) := by unfold rn; rw [if_neg q, if_neg w, if_pos x]
          have d := dgF_3 (T := T) (rn T n p - p).toNat p 0 (fun j j0 j1 => by
            by_cases e : j = p
            · subst e; exact x
            · exact rl_in T n 48 57 240 (p + 1) j (by omega) (by rw [← er]; omega)) (by omega)
          have p3 : (10 : Int) ^ (rn T n p - p).toNat ≤ 1000 := by
            have : (rn T n p - p).toNat = 1 ∨ (rn T n p - p).toNat = 2 ∨ (rn T n p - p).toNat = 3 := by omega
            rcases this with z | z | z <;> rw [z] <;> decide
          refine ⟨by omega, x, y, ew, ?_, ?_⟩ <;> rw [ew] <;> omega
        · rw [if_neg y] at h; omega
      · rw [if_neg x] at h; omega
theorem kd_1 {T : Int → Int} {n p : Int} (h : kd T n p = 1) : p < n ∧ isL (T p) ∧ wt T n p = wdI T p (rn T n p) := by
  unfold kd at h
  by_cases q : n ≤ p
  · rw [if_pos q] at h; omega
  · rw [if_neg q] at h
    by_cases w : isL (T p)
    · exact ⟨by omega, w, by unfold wt; rw [if_neg q, if_pos w]⟩
    · rw [if_neg w] at h
      split at h
      · split at h <;> omega
      · omega
theorem kd_3 {T : Int → Int} {n p : Int} (h : kd T n p = 3) : p < n ∧ ¬ isL (T p) ∧ ¬ isD (T p) ∧ wt T n p = T p := by
  unfold kd at h
  by_cases q : n ≤ p
  · rw [if_pos q] at h; omega
  · rw [if_neg q] at h
    by_cases w : isL (T p)
    · rw [if_pos w] at h; omega
    · rw [if_neg w] at h
      by_cases x : isD (T p)
      · rw [if_pos x] at h
        split at h <;> omega
      · exact ⟨by omega, w, x, by unfold wt; rw [if_neg q, if_neg w, if_neg x]⟩
/-- the parts: m of them -/
def Tks (T : Int → Int) (n : Int) (m : Nat) : Prop := (0 ≤ n ∧ n ≤ 240) ∧ m ≤ 240 ∧ stN T n m = n ∧ ∀ j, j < m → stN T n j < n
