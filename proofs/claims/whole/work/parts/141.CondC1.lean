/-! PURE, part 71: the class reads a COND -/
def CTK (K W : Nat → Int) (m : Nat) (z : zH) : Prop := z 55 6 = m + 1 ∧ ∀ j : Nat, j ≤ m → z 62 j = K j ∧ (K j ≠ 4 → z 63 j = W j)
def CV (K W : Nat → Int) (z : zH) (i : Nat) : Prop := z 55 7 = i ∧ z 55 9 = K i ∧ (K i ≠ 4 → z 55 10 = W i) ∧ z 55 8 = z 61 i
/-- since z only the view, the draft's end so far and what lies behind it changed -/
def FC (cnt f : Int) (z z' : zH) : Prop := fr [55, 59, 60] z z' ∧ (∀ q, q ≠ 7 → q ≠ 8 → (q ≠ 9 ∧ q ≠ 10) → z' 55 q = z 55 q) ∧ (∀ q, q ≠ cnt → z' 59 q = z 59 q) ∧ ∀ q, q < f → z' 60 q = z 60 q
theorem FC_rf (cnt f : Int) (z : zH) : FC cnt f z z := ⟨fr_rf _ _, fun _ _ _ _ => rfl, fun _ _ => rfl, fun _ _ => rfl⟩
theorem FC_tr {cnt f f1 : Int} {z z1 z2 : zH} (h : FC cnt f z z1) (k : FC cnt f1 z1 z2) (hf : f ≤ f1) : FC cnt f z z2 := ⟨fr_tr h.1 k.1 rfl, fun q a b c => (k.2.1 q a b c).trans (h.2.1 q a b c), fun q a => (k.2.2.1 q a).trans (h.2.2.1 q a), fun q a => (k.2.2.2 q (by omega)).trans (h.2.2.2 q a)⟩
theorem CTK_t {K W : Nat → Int} {m : Nat} {cnt f : Int} {z z' : zH} (h : CTK K W m z) (k : FC cnt f z z') : CTK K W m z' := by
  refine ⟨by rw [k.2.1 6 (by omega) (by omega) (by omega)]; exact h.1, fun j hj => ?_⟩
  rw [k.1 62 rfl, k.1 63 rfl]
  exact h.2 j hj
def PreC (K W : Nat → Int) (B : Nat → Int) (m : Nat) (cnt : Int) (z : zH) (i : Nat) (f : Int) : Prop := zRR z ∧ CTK K W m z ∧ CV K W z i ∧ i ≤ m ∧ z 57 3 = cnt ∧ (0 ≤ cnt ∧ cnt ≤ 9) ∧ z 59 cnt = f ∧ 0 ≤ f ∧ 2 * f ≤ B i
def PostC (K W : Nat → Int) (cnt f : Int) (r : PR) (z : zH) (rv : Int) (z' : zH) : Prop := rv = (if r.1 = true then 1 else 0) ∧ CV K W z' r.2.1 ∧ (r.1 = true → z' 59 cnt = f + r.2.2.1.length ∧ has (z' 60) f r.2.2.1) ∧ FC cnt f z z'
theorem PreC_p {K W : Nat → Int} {B : Nat → Int} {m : Nat} {cnt : Int} {z z' : zH} {i : Nat} {f rv : Int} {r : PR} (h : PreC K W B m cnt z i f) (hp : PostC K W cnt f r z rv z') (hb : PB B m i r) (hr : r.1 = true) (hz : zRR z') : PreC K W B m cnt z' r.2.1 (f + r.2.2.1.length) := by
  obtain ⟨h1, h2, h3, h4, h5, h6, h7, h8, h9⟩ := h
  obtain ⟨p1, p2, p3, p4⟩ := hp
  have b := hb.2.2 hr
  exact ⟨hz, CTK_t h2 p4, p2, hb.2.1, by rw [p4.1 57 rfl]; exact h5, h6, (p3 hr).1, by omega, by omega⟩
theorem c_look (d : Nat) {K W : Nat → Int} {m : Nat} (hm : m ≤ 240) {z : zH} (hz : zRR z) (hC : CTK K W m z) (cnt f : Int) {p : Nat} (hp : p ≤ m) : xw (cM (d + 1) 77 [xR 25 55, xI (zI (p : Int))] (hI z)) (fun _ z' => CV K W z' p ∧ FC cnt f z z' ∧ z' 59 = z 59 ∧ z' 60 = z 60) := by
  have pr : zR (p : Int) := zR_s (by omega)
  have h0r : zR 0 := zR_s (by omega)
  have b := bnd (a := (p : Int)) (n := 241) (by omega) (by omega) (by omega)
  have c := hC.2 p hp
  have c6 := hC.1
  rw [e_X9_look]
  simp only [zLit, hI_fs, c6, lenX_s, if_neg b]
  simp only [zI_nat pr, zld (show (0 : Int) ≤ p by omega), hI_us]
  rw [if_neg (by rw [zI_lt pr h0r]; omega), if_pos (by rw [zI_lt pr (zR_s (by omega))]; omega)]
  refine xw_ret h0r (zRR_up (zRR_up (zRR_up (zRR_up hz _ _ pr) _ _ (hz _ _)) _ _ (hz _ _)) _ _ (hz _ _)) ⟨⟨?_, ?_, fun k4 => ?_, ?_⟩, ⟨fr_up (fr_up (fr_up (fr_up (fr_rf _ _) _ _ rfl) _ _ rfl) _ _ rfl) _ _ rfl, fun q a b c => ?_, fun q _ => ?_, fun q _ => ?_⟩, ?_, ?_⟩
  · rw [zup_at, if_neg (by omega), zup_at, if_neg (by omega), zup_at, if_neg (by omega), zup_at, if_pos ⟨rfl, rfl⟩]
  · rw [zup_at, if_neg (by omega), zup_at, if_pos ⟨rfl, rfl⟩]; exact c.1
  · rw [zup_at, if_pos ⟨rfl, rfl⟩]; exact c.2 k4
  · rw [zup_at, if_neg (by omega), zup_at, if_neg (by omega), zup_at, if_pos ⟨rfl, rfl⟩, zup_ne _ _ _ (by decide), zup_ne _ _ _ (by decide), zup_ne _ _ _ (by decide), zup_ne _ _ _ (by decide)]
  · rw [zup_at, if_neg (by omega), zup_at, if_neg (by omega), zup_at, if_neg (by omega), zup_at, if_neg (by omega)]
  · rw [zup_ne _ _ _ (by decide), zup_ne _ _ _ (by decide), zup_ne _ _ _ (by decide), zup_ne _ _ _ (by decide)]
  · rw [zup_ne _ _ _ (by decide), zup_ne _ _ _ (by decide), zup_ne _ _ _ (by decide), zup_ne _ _ _ (by decide)]
  · rw [zup_ne _ _ _ (by decide), zup_ne _ _ _ (by decide), zup_ne _ _ _ (by decide), zup_ne _ _ _ (by decide)]
  · rw [zup_ne _ _ _ (by decide), zup_ne _ _ _ (by decide), zup_ne _ _ _ (by decide), zup_ne _ _ _ (by decide)]
/-- the next part in view, the same draft -/
theorem c_lookN (d : Nat) {K W : Nat → Int} {B : Nat → Int} {m : Nat} (h : TKO K W B m) {cnt : Int} {z : zH} {i : Nat} {f : Int} (hP : PreC K W B m cnt z i f) (hi : K i ≠ 0) : xw (cM (d + 1) 77 [xR 25 55, xI (zI ((i : Int) + 1))] (hI z)) (fun _ z' => PreC K W B m cnt z' (i + 1) f ∧ FC cnt f z z' ∧ z' 60 = z 60) := by
  obtain ⟨h1, h2, h3, h4, h5, h6, h7, h8, h9⟩ := hP
  have im := (h.1 i).mpr hi
  have bi := h.2.1 i im
  rw [show ((i : Int) + 1) = ((i + 1 : Nat) : Int) by omega]
  refine xw_m (c_look d h.2.2.2.2 h1 h2 cnt f (p := i + 1) (by omega)) ?_
  intro r z1 _ hz1 ⟨c1, c2, c3, c4⟩
  exact ⟨⟨hz1, CTK_t h2 c2, c1, by omega, by rw [c2.1 57 rfl]; exact h5, h6, by rw [c3]; exact h7, h8, by omega⟩, c2, c4⟩
theorem c_isWord (d : Nat) {K W : Nat → Int} {z : zH} (hz : zRR z) {i : Nat} (hV : CV K W z i) {w : Int} (hw : zR w) : cM (d + 1) 86 [xR 25 55, xI (zI w)] (hI z) = some (zB (wdA K W i w), hI z) := by
  obtain ⟨v1, v2, v3, v4⟩ := hV
  have r8 := hz 55 9
  have r9 := hz 55 10
  rw [v2] at r8
  rw [e_X9_isWord]
  simp only [zLit, hI_fs, v2]
  by_cases q : K i = 1
  · have v9 := v3 (by omega)
    rw [v9] at r9
    rw [if_pos (by rw [q])]
    simp only [v9]
    by_cases x : W i = w
    · rw [if_pos (by rw [x])]
      exact congrArg (fun t => some (t, hI z)) (zB_t ⟨q, x⟩)
    · rw [if_neg (by rw [zI_eq r9 hw]; exact x)]
      exact congrArg (fun t => some (t, hI z)) (zB_f (fun y => x y.2))
  · rw [if_neg (by rw [zI_eq r8 (zR_s (by omega))]; exact q)]
    exact congrArg (fun t => some (t, hI z)) (zB_f (fun y => q y.1))
theorem c_isByte (d : Nat) {K W : Nat → Int} {z : zH} (hz : zRR z) {i : Nat} (hV : CV K W z i) {w : Int} (hw : zR w) : cM (d + 1) 87 [xR 25 55, xI (zI w)] (hI z) = some (zB (sgA K W i w), hI z) := by
  obtain ⟨v1, v2, v3, v4⟩ := hV
  have r8 := hz 55 9
  have r9 := hz 55 10
  rw [v2] at r8
  rw [e_X9_isByte]
  simp only [zLit, hI_fs, v2]
  by_cases q : K i = 3
  · have v9 := v3 (by omega)
    rw [v9] at r9
    rw [if_pos (by rw [q])]
    simp only [v9]
    by_cases x : W i = w
    · rw [if_pos (by rw [x])]
      exact congrArg (fun t => some (t, hI z)) (zB_t ⟨q, x⟩)
    · rw [if_neg (by rw [zI_eq r9 hw]; exact x)]
      exact congrArg (fun t => some (t, hI z)) (zB_f (fun y => x y.2))
  · rw [if_neg (by rw [zI_eq r8 (zR_s (by omega))]; exact q)]
    exact congrArg (fun t => some (t, hI z)) (zB_f (fun y => q y.1))
theorem c_isVal (d : Nat) {K W : Nat → Int} {z : zH} (hz : zRR z) {i : Nat} (hV : CV K W z i) : cM (d + 1) 84 [xR 25 55] (hI z) = some (zI (if vOkB K W i = true then 1 else 0), hI z) := by
  obtain ⟨v1, v2, v3, v4⟩ := hV
  have r8 := hz 55 9
  have r9 := hz 55 10
  rw [v2] at r8
  rw [e_X9_isValue]
  simp only [zLit, hI_fs, v2]
  have y := vOkB_i K W i
  by_cases q : K i = 2
  · rw [if_pos (by rw [q]), if_pos (y.mpr (Or.inl q))]
  · rw [if_neg (by rw [zI_eq r8 (zR_s (by omega))]; exact q)]
    by_cases q1 : K i = 1
    · have v9 := v3 (by omega)
      rw [v9] at r9
      rw [if_pos (by rw [q1])]
      simp only [v9]
      by_cases w : W i < 8
      · rw [if_pos (by rw [zI_lt r9 (zR_s (by omega))]; exact w), if_neg (fun x => by have := y.mp x; unfold vOk at this; omega)]
      · rw [if_neg (by rw [zI_lt r9 (zR_s (by omega))]; exact w)]
        by_cases u : W i < 15
        · rw [if_pos (by rw [zI_lt r9 (zR_s (by omega))]; exact u), if_pos (y.mpr (Or.inr ⟨q1, by omega, u⟩))]
        · rw [if_neg (by rw [zI_lt r9 (zR_s (by omega))]; exact u), if_neg (fun x => by have := y.mp x; unfold vOk at this; omega)]
    · rw [if_neg (by rw [zI_eq r8 (zR_s (by omega))]; exact q1), if_neg (fun x => by have := y.mp x; unfold vOk at this; omega)]
theorem c_valV (d : Nat) {K W : Nat → Int} {z : zH} (hz : zRR z) {i : Nat} (hV : CV K W z i) (hv : vOk K W i) : cM (d + 1) 85 [xR 25 55] (hI z) = some (zI (vVl K W i), hI z) := by
  obtain ⟨v1, v2, v3, v4⟩ := hV
  have r8 := hz 55 9
  rw [v2] at r8
  have v9 := v3 (by rcases hv with q | q <;> omega)
  rw [e_X9_value]
  simp only [zLit, hI_fs, v2, v9, zI_add, zI_sub]
  unfold vVl
  by_cases q : K i = 2
  · rw [if_pos (by rw [q]), if_pos q]
  · rw [if_neg (by rw [zI_eq r8 (zR_s (by omega))]; exact q), if_neg q]
theorem c_hadd (d : Nat) {z : zH} (hz : zRR z) {cnt f x : Int} (e3 : z 57 3 = cnt) (hc : 0 ≤ cnt ∧ cnt ≤ 9) (ef : z 59 cnt = f) (hf : 0 ≤ f ∧ f < 240) (hx : zR x) : xw (cM (d + 1) 24 [xR 20 57, xI (zI x)] (hI z)) (fun _ z' => z' 59 cnt = f + 1 ∧ z' 60 f = x ∧ FC cnt f z z' ∧ z' 55 = z 55) := by
  have cr : zR cnt := zR_s (by omega)
  have fr' : zR f := zR_s (by omega)
  have h0r : zR 0 := zR_s (by omega)
  have b1 := bnd (a := cnt) (n := 10) (by omega) (by omega) (by omega)
  have b2 := bnd (a := f) (n := 240) (by omega) (by omega) (by omega)
  have ee : hI z 59 (zI cnt).toNatClampNeg = zI f := by rw [zI_nat cr, zld hc.1, ef]
  rw [e_X4_add]
  simp only [zLit, Nat.reduceAdd, hI_fs, e3, lenX_s, if_neg b1, ee, if_neg b2]
  rw [if_neg (by rw [zI_lt cr h0r]; omega), if_neg (by rw [zI_lt (zR_s (by omega)) cr]; omega), if_neg (by rw [zI_lt fr' h0r]; omega), if_pos (by rw [zI_lt fr' (zR_s (by omega))]; omega)]
  simp only [zI_nat fr', zst hf.1]
  have e57 : zup z 60 f x 57 3 = cnt := by rw [zup_at, if_neg (by omega)]; exact e3
  simp only [hI_fs, e57, if_neg b1]
  simp only [zI_nat cr, zst hc.1, zI_add]
  refine xw_ret h0r (zRR_up (zRR_up hz _ _ hx) _ _ (zR_s (by omega))) ⟨?_, ?_, ⟨fr_up (fr_up (fr_rf _ _) _ _ rfl) _ _ rfl, fun q _ _ _ => ?_, fun q hq => ?_, fun q hq => ?_⟩, ?_⟩
  · rw [zup_at, if_pos ⟨rfl, rfl⟩]
  · rw [zup_at, if_neg (by omega), zup_at, if_pos ⟨rfl, rfl⟩]
  · rw [zup_ne _ _ _ (by decide), zup_ne _ _ _ (by decide)]
  · rw [zup_at, if_neg (fun w => hq w.2), zup_at, if_neg (by omega)]
  · rw [zup_at, if_neg (by omega), zup_at, if_neg (by omega)]
  · rw [zup_ne _ _ _ (by decide), zup_ne _ _ _ (by decide)]
/-- another code behind the draft -/
theorem c_haddN (d : Nat) {K W : Nat → Int} {B : Nat → Int} {m : Nat} (h : TKO K W B m) (hB : ∀ j, B j ≤ 240) {cnt : Int} {z : zH} {i : Nat} {f : Int} (hP : zRR z ∧ CV K W z i ∧ z 57 3 = cnt ∧ (0 ≤ cnt ∧ cnt ≤ 9) ∧ z 59 cnt = f ∧ 0 ≤ f ∧ 2 * f ≤ B i) {x : Int} (hx : zR x) : xw (cM (d + 1) 24 [xR 20 57, xI (zI x)] (hI z)) (fun _ z' => CV K W z' i ∧ z' 59 cnt = f + 1 ∧ z' 60 f = x ∧ FC cnt f z z') := by
  obtain ⟨h1, h3, h5, h6, h7, h8, h9⟩ := hP
  have := hB i
  refine xw_m (c_hadd d h1 h5 h6 h7 ⟨h8, by omega⟩ hx) ?_
  intro r z1 _ _ ⟨c1, c2, c3, c4⟩
  refine ⟨?_, c1, c2, c3⟩
  unfold CV
  rw [c4, c3.1 61 rfl]
  exact h3
