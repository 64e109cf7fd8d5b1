/-! PURE, part 69: how a text is read, in thought; what its codes mean -/
abbrev PR : Type := Bool × Nat × List Int × List Int
def vOk (K W : Nat → Int) (i : Nat) : Prop := K i = 2 ∨ (K i = 1 ∧ 8 ≤ W i ∧ W i < 15)
def vVl (K W : Nat → Int) (i : Nat) : Int := if K i = 2 then W i else 1000 + W i - 8
abbrev wdA (K W : Nat → Int) (i : Nat) (w : Int) : Prop := K i = 1 ∧ W i = w
abbrev sgA (K W : Nat → Int) (i : Nat) (c : Int) : Prop := K i = 3 ∧ W i = c
def sgn (K W : Nat → Int) (i : Nat) : Int := if sgA K W i 60 then 0 else if sgA K W i 61 then 1 else if sgA K W i 62 then 2 else -1
def vOkB (K W : Nat → Int) (i : Nat) : Bool := decide (K i = 2) || (decide (K i = 1) && decide (8 ≤ W i ∧ W i < 15))
theorem vOkB_i (K W : Nat → Int) (i : Nat) : vOkB K W i = true ↔ vOk K W i := by
  unfold vOkB vOk
  simp only [Bool.or_eq_true, Bool.and_eq_true, decide_eq_true_eq]
def cdC (s a b : Int) : Int := 3 + (s * 1024 + a) * 1024 + b
def cdM (s a b : Int) : Int := 1010 * (1010 * s + a) + b
def pCmp (K W : Nat → Int) (i : Nat) : PR :=
  if vOkB K W i = true then (if 0 ≤ sgn K W (i + 1) then (if vOkB K W (i + 2) = true then (true, i + 3, [cdC (sgn K W (i + 1)) (vVl K W i) (vVl K W (i + 2))], [cdM (sgn K W (i + 1)) (vVl K W i) (vVl K W (i + 2))]) else (false, i + 2, [], [])) else (false, i + 1, [], [])) else (false, i, [], [])
def nots (K W : Nat → Int) : Nat → Nat → Nat
  | 0, _ => 0
  | f + 1, i => if wdA K W i 7 then nots K W f (i + 1) + 1 else 0
def pOn2 (K W : Nat → Int) (b : Nat → PR) (j : Nat) : PR := if sgA K W j 40 then b j else pCmp K W j
def pOne (K W : Nat → Int) (b : Nat → PR) (i : Nat) : PR :=
  ((pOn2 K W b (i + nots K W 240 i)).1, (pOn2 K W b (i + nots K W 240 i)).2.1, (pOn2 K W b (i + nots K W 240 i)).2.2.1 ++ (if nots K W 240 i % 2 = 1 then [0] else []), (pOn2 K W b (i + nots K W 240 i)).2.2.2 ++ List.replicate (nots K W 240 i) (-1))
def joL (K W : Nat → Int) (o : Nat → PR) (w c m : Int) : Nat → Nat → List Int → List Int → PR
  | 0, i, cc, mc => (true, i, cc, mc)
  | f + 1, i, cc, mc => if wdA K W i w then (if (o (i + 1)).1 = true then joL K W o w c m f (o (i + 1)).2.1 (cc ++ ((o (i + 1)).2.2.1 ++ [c])) (mc ++ ((o (i + 1)).2.2.2 ++ [m])) else (false, (o (i + 1)).2.1, cc, mc)) else (true, i, cc, mc)
def pJoin (K W : Nat → Int) (o : Nat → PR) (w c m : Int) (i : Nat) : PR := if (o i).1 = true then joL K W o w c m 240 (o i).2.1 (o i).2.2.1 (o i).2.2.2 else (false, (o i).2.1, [], [])
def pAll (K W : Nat → Int) (b : Nat → PR) : Nat → PR := pJoin K W (pOne K W b) 6 1 (-2)
def pCond (K W : Nat → Int) (b : Nat → PR) : Nat → PR := pJoin K W (pAll K W b) 5 2 (-3)
def bro (K W : Nat → Int) : Nat → Nat → PR
  | 0, j => (false, j, [], [])
  | g + 1, j => if (pCond K W (bro K W g) (j + 1)).1 = true then (if sgA K W (pCond K W (bro K W g) (j + 1)).2.1 41 then (true, (pCond K W (bro K W g) (j + 1)).2.1 + 1, (pCond K W (bro K W g) (j + 1)).2.2) else (false, (pCond K W (bro K W g) (j + 1)).2.1, [], [])) else (false, (pCond K W (bro K W g) (j + 1)).2.1, [], [])
/-! how far it goes, how long its codes are -/
def TKO (K W : Nat → Int) (B : Nat → Int) (m : Nat) : Prop := (∀ i, i < m ↔ K i ≠ 0) ∧ (∀ i, i < m → B i + 1 ≤ B (i + 1)) ∧ (∀ i, K i = 1 → 5 ≤ W i → W i ≤ 7 → B i + 2 ≤ B (i + 1)) ∧ (∀ i, K i = 2 → 0 ≤ W i ∧ W i ≤ 999) ∧ m ≤ 240
def PB (B : Nat → Int) (m i : Nat) (r : PR) : Prop := i ≤ r.2.1 ∧ r.2.1 ≤ m ∧ (r.1 = true → i < r.2.1 ∧ B i + 2 * (r.2.2.1.length : Int) ≤ B r.2.1 ∧ B i + 2 * (r.2.2.2.length : Int) ≤ B r.2.1)
theorem vOk_0 {K W : Nat → Int} {i : Nat} (h : vOk K W i) : K i ≠ 0 := by
  rcases h with q | q <;> omega
theorem sgn_b (K W : Nat → Int) (i : Nat) : -1 ≤ sgn K W i ∧ sgn K W i ≤ 2 ∧ (0 ≤ sgn K W i → K i = 3) := by
  unfold sgn
  split
  · rename_i q; exact ⟨by omega, by omega, fun _ => q.1⟩
  · split
    · rename_i q; exact ⟨by omega, by omega, fun _ => q.1⟩
    · split
      · rename_i q; exact ⟨by omega, by omega, fun _ => q.1⟩
      · exact ⟨by omega, by omega, fun h => by omega⟩
theorem PB_cmp {K W : Nat → Int} {B : Nat → Int} {m : Nat} (h : TKO K W B m) {i : Nat} (hi : i ≤ m) : PB B m i (pCmp K W i) := by
  obtain ⟨t1, t2, t3, t4, t5⟩ := h
  unfold pCmp
  by_cases q : vOkB K W i = true
  · rw [if_pos q]
    have i0 := (t1 i).mpr (vOk_0 ((vOkB_i K W i).mp q))
    by_cases w : 0 ≤ sgn K W (i + 1)
    · rw [if_pos w]
      have i1 := (t1 (i + 1)).mpr (by have := (sgn_b K W (i + 1)).2.2 w; omega)
      by_cases x : vOkB K W (i + 2) = true
      · rw [if_pos x]
        have i2 := (t1 (i + 2)).mpr (vOk_0 ((vOkB_i K W (i + 2)).mp x))
        have b0 := t2 i i0
        have b1 := t2 (i + 1) i1
        have b2 := t2 (i + 2) i2
        refine ⟨by simp only; omega, by simp only; omega, fun _ => ⟨by simp only; omega, ?_, ?_⟩⟩ <;> simp only [List.length_cons, List.length_nil] <;> rw [show i + 3 = i + 2 + 1 from rfl] <;> rw [show i + 1 + 1 = i + 2 from rfl] at b1 <;> omega
      · rw [if_neg x]
        exact ⟨by simp only; omega, by simp only; omega, fun y => by cases y⟩
    · rw [if_neg w]
      exact ⟨by simp only; omega, by simp only; omega, fun y => by cases y⟩
  · rw [if_neg q]
    exact ⟨by simp only; omega, by simp only; omega, fun y => by cases y⟩
theorem nots_b {K W : Nat → Int} {B : Nat → Int} {m : Nat} (h : TKO K W B m) : ∀ (f i : Nat), i ≤ m → i + nots K W f i ≤ m ∧ B i + 2 * (nots K W f i : Int) ≤ B (i + nots K W f i) := by
  intro f
  induction f with
  | zero => intro i hi; unfold nots; simp; omega
  | succ f ih =>
    intro i hi
    unfold nots
    by_cases q : wdA K W i 7
    · rw [if_pos q]
      have i0 := (h.1 i).mpr (by have := q.1; omega)
      have a := ih (i + 1) (by omega)
      have b := h.2.2.1 i q.1 (by have := q.2; omega) (by have := q.2; omega)
      rw [show i + (nots K W f (i + 1) + 1) = i + 1 + nots K W f (i + 1) by omega]
      refine ⟨a.1, ?_⟩
      have := a.2
      omega
    · rw [if_neg q]
      simp
      omega
theorem PB_on2 {K W : Nat → Int} {B : Nat → Int} {m : Nat} (h : TKO K W B m) {b : Nat → PR} (hb : ∀ j, sgA K W j 40 → PB B m j (b j)) {j : Nat} (hj : j ≤ m) : PB B m j (pOn2 K W b j) := by
  unfold pOn2
  by_cases q : sgA K W j 40
  · rw [if_pos q]; exact hb j q
  · rw [if_neg q]; exact PB_cmp h hj
theorem PB_one {K W : Nat → Int} {B : Nat → Int} {m : Nat} (h : TKO K W B m) {b : Nat → PR} (hb : ∀ j, sgA K W j 40 → PB B m j (b j)) {i : Nat} (hi : i ≤ m) : PB B m i (pOne K W b i) := by
  have nb := nots_b h 240 i hi
  obtain ⟨a1, a2, a3⟩ := PB_on2 h hb nb.1
  refine ⟨?_, a2, fun hr => ?_⟩
  · show i ≤ (pOn2 K W b (i + nots K W 240 i)).2.1
    omega
  · obtain ⟨c1, c2, c3⟩ := a3 hr
    refine ⟨?_, ?_, ?_⟩
    · show i < (pOn2 K W b (i + nots K W 240 i)).2.1
      omega
    · show B i + 2 * (((pOn2 K W b (i + nots K W 240 i)).2.2.1 ++ (if nots K W 240 i % 2 = 1 then [0] else [])).length : Int) ≤ B (pOn2 K W b (i + nots K W 240 i)).2.1
      rw [List.length_append]
      split
      · simp only [List.length_cons, List.length_nil]; omega
      · simp only [List.length_nil]; omega
    · show B i + 2 * (((pOn2 K W b (i + nots K W 240 i)).2.2.2 ++ List.replicate (nots K W 240 i) (-1)).length : Int) ≤ B (pOn2 K W b (i + nots K W 240 i)).2.1
      rw [List.length_append, List.length_replicate]
      omega
theorem PB_joL {K W : Nat → Int} {B : Nat → Int} {m : Nat} (h : TKO K W B m) {o : Nat → PR} (ho : ∀ j, j ≤ m → PB B m j (o j)) {w c mm : Int} (hw : 5 ≤ w ∧ w ≤ 7) {i0 : Nat} : ∀ (f i : Nat) (cc mc : List Int), i0 < i → i ≤ m → B i0 + 2 * (cc.length : Int) ≤ B i → B i0 + 2 * (mc.length : Int) ≤ B i → PB B m i0 (joL K W o w c mm f i cc mc) := by
  intro f
  induction f with
  | zero => intro i cc mc a1 a2 a3 a4; exact ⟨by unfold joL; simp only; omega, a2, fun _ => ⟨a1, a3, a4⟩⟩
  | succ f ih =>
    intro i cc mc a1 a2 a3 a4
    unfold joL
    by_cases q : wdA K W i w
    · rw [if_pos q]
      have im := (h.1 i).mpr (by have := q.1; omega)
      have bb := h.2.2.1 i q.1 (by have := q.2; omega) (by have := q.2; omega)
      obtain ⟨b1, b2, b3⟩ := ho (i + 1) (by omega)
      by_cases x : (o (i + 1)).1 = true
      · rw [if_pos x]
        obtain ⟨c1, c2, c3⟩ := b3 x
        refine ih _ _ _ (by omega) b2 ?_ ?_ <;> simp only [List.length_append, List.length_cons, List.length_nil] <;> omega
      · rw [if_neg x]
        exact ⟨by simp only; omega, b2, fun y => by cases y⟩
    · rw [if_neg q]
      exact ⟨by simp only; omega, a2, fun _ => ⟨a1, a3, a4⟩⟩
theorem PB_join {K W : Nat → Int} {B : Nat → Int} {m : Nat} (h : TKO K W B m) {o : Nat → PR} (ho : ∀ j, j ≤ m → PB B m j (o j)) {w c mm : Int} (hw : 5 ≤ w ∧ w ≤ 7) {i : Nat} (hi : i ≤ m) : PB B m i (pJoin K W o w c mm i) := by
  unfold pJoin
  obtain ⟨b1, b2, b3⟩ := ho i hi
  by_cases x : (o i).1 = true
  · rw [if_pos x]
    obtain ⟨c1, c2, c3⟩ := b3 x
    exact PB_joL h ho hw 240 _ _ _ c1 b2 c2 c3
  · rw [if_neg x]
    exact ⟨b1, b2, fun y => by cases y⟩
theorem PB_all {K W : Nat → Int} {B : Nat → Int} {m : Nat} (h : TKO K W B m) {b : Nat → PR} (hb : ∀ j, sgA K W j 40 → PB B m j (b j)) {i : Nat} (hi : i ≤ m) : PB B m i (pAll K W b i) := PB_join h (fun _ hj => PB_one h hb hj) (by omega) hi
theorem PB_cond {K W : Nat → Int} {B : Nat → Int} {m : Nat} (h : TKO K W B m) {b : Nat → PR} (hb : ∀ j, sgA K W j 40 → PB B m j (b j)) {i : Nat} (hi : i ≤ m) : PB B m i (pCond K W b i) := PB_join h (fun _ hj => PB_all h hb hj) (by omega) hi
theorem PB_bro {K W : Nat → Int} {B : Nat → Int} {m : Nat} (h : TKO K W B m) : ∀ (g j : Nat), sgA K W j 40 → PB B m j (bro K W g j) := by
  intro g
  induction g with
  | zero =>
    intro j hj
    have := (h.1 j).mpr (by have := hj.1; omega)
    exact ⟨Nat.le_refl _, by show j ≤ m; omega, fun y => by cases y⟩
  | succ g ih =>
    intro j hj
    have jm := (h.1 j).mpr (by have := hj.1; omega)
    have bj := h.2.1 j jm
    obtain ⟨b1, b2, b3⟩ := PB_cond h ih (i := j + 1) (by omega)
    unfold bro
    by_cases x : (pCond K W (bro K W g) (j + 1)).1 = true
    · rw [if_pos x]
      obtain ⟨c1, c2, c3⟩ := b3 x
      by_cases y : sgA K W (pCond K W (bro K W g) (j + 1)).2.1 41
      · rw [if_pos y]
        have km := (h.1 _).mpr (show K (pCond K W (bro K W g) (j + 1)).2.1 ≠ 0 by have := y.1; omega)
        have bk := h.2.1 _ km
        refine ⟨by simp only; omega, by simp only; omega, fun _ => ⟨by simp only; omega, by simp only; omega, by simp only; omega⟩⟩
      · rw [if_neg y]
        exact ⟨by simp only; omega, b2, fun y => by cases y⟩
    · rw [if_neg x]
      exact ⟨by simp only; omega, b2, fun y => by cases y⟩
