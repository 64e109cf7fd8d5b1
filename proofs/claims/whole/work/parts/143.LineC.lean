/-! PURE, part 73: LINES: in thought; of the class -/
abbrev LnT : Type := Int → Int × List Int × List Int
def pLine (K W : Nat → Int) (i : Nat) : PR := if K i = 1 ∧ W i ≤ 3 then (if wdA K W (i + 1) 4 then (if (pCond K W (bro K W 4) (i + 2)).1 = true then (if sgA K W (pCond K W (bro K W 4) (i + 2)).2.1 59 then (true, (pCond K W (bro K W 4) (i + 2)).2.1 + 1, (pCond K W (bro K W 4) (i + 2)).2.2) else (false, (pCond K W (bro K W 4) (i + 2)).2.1, [], [])) else (false, (pCond K W (bro K W 4) (i + 2)).2.1, [], [])) else (false, i + 1, [], [])) else (false, i, [], [])
def LnPut (L : LnT) (c : Nat) (x : Int × List Int × List Int) : LnT := fun k => if k = c then x else L k
def rdL (K W : Nat → Int) : Nat → Nat → LnT → Nat → Bool × Nat × LnT × Nat
  | 0, i, L, c => (decide (K i = 0), i, L, c)
  | f + 1, i, L, c => if K i = 0 then (true, i, L, c) else if (pLine K W i).1 = true then rdL K W f (pLine K W i).2.1 (LnPut L c (W i, (pLine K W i).2.2)) (c + 1) else (false, (pLine K W i).2.1, L, c)
theorem PB_line {K W : Nat → Int} {B : Nat → Int} {m : Nat} (h : TKO K W B m) {i : Nat} (hi : i ≤ m) : PB B m i (pLine K W i) := by
  unfold pLine
  by_cases q : K i = 1 ∧ W i ≤ 3
  · rw [if_pos q]
    have i0 := (h.1 i).mpr (by omega)
    have b0 := h.2.1 i i0
    by_cases w : wdA K W (i + 1) 4
    · rw [if_pos w]
      have i1 := (h.1 (i + 1)).mpr (by have := w.1; omega)
      have b1 := h.2.1 (i + 1) i1
      rw [show i + 1 + 1 = i + 2 from rfl] at b1
      obtain ⟨c1, c2, c3⟩ := PB_cond h (PB_bro h 4) (i := i + 2) (by omega)
      generalize pCond K W (bro K W 4) (i + 2) = R at *
      by_cases x : R.1 = true
      · rw [if_pos x]
        obtain ⟨d1, d2, d3⟩ := c3 x
        by_cases y : sgA K W R.2.1 59
        · rw [if_pos y]
          have km := (h.1 R.2.1).mpr (by have := y.1; omega)
          have bk := h.2.1 _ km
          exact ⟨by simp only; omega, by simp only; omega, fun _ => ⟨by simp only; omega, by simp only; omega, by simp only; omega⟩⟩
        · rw [if_neg y]
          exact ⟨by simp only; omega, c2, fun y => by cases y⟩
      · rw [if_neg x]
        exact ⟨by simp only; omega, c2, fun y => by cases y⟩
    · rw [if_neg w]
      exact ⟨by simp only; omega, by simp only; omega, fun y => by cases y⟩
  · rw [if_neg q]
    exact ⟨by simp only; omega, hi, fun y => by cases y⟩
theorem DN_line {K W : Nat → Int} {B : Nat → Int} {m : Nat} (h : TKO K W B m) (i : Nat) : DN 4096 85 (pLine K W i) := by
  have c := DN_cond h (S := 4096) (E := 85) (by omega) (by omega) (by omega) (fun j => DN_bro h 4 (4 * 4096) (85 + 2) (by omega) (by decide) (by omega) j) (i + 2)
  unfold pLine
  split
  · split
    · split
      · rename_i x
        split
        · exact fun _ => c x
        · exact fun y => by cases y
      · exact fun y => by cases y
    · exact fun y => by cases y
  · exact fun y => by cases y
def DNL (x : Int × List Int × List Int) : Prop := DN 4096 85 (true, 0, x.2.1, x.2.2)
theorem rdL_ok {K W : Nat → Int} {B : Nat → Int} {m : Nat} (h : TKO K W B m) : ∀ (f i : Nat) (L : LnT) (c : Nat), (∀ k : Nat, k < c → DNL (L k)) → ∀ k : Nat, k < (rdL K W f i L c).2.2.2 → DNL ((rdL K W f i L c).2.2.1 k) := by
  intro f
  induction f with
  | zero => intro i L c hL; exact hL
  | succ f ih =>
    intro i L c hL
    unfold rdL
    split
    · exact hL
    · split
      · rename_i x
        refine ih _ _ _ (fun k hk => ?_)
        unfold LnPut
        by_cases e : (k : Int) = c
        · rw [if_pos e]
          exact fun _ => DN_line h i x
        · rw [if_neg e]
          exact hL k (by omega)
      · exact hL
/-- the draft holds so many LINES -/
def LCt (z : zH) (c : Nat) (L : LnT) (f : Int) : Prop := z 57 3 = c ∧ z 59 0 = 0 ∧ z 59 c = f ∧ 0 ≤ f ∧ ∀ k : Nat, k < c → z 58 k = (L k).1 ∧ (0 ≤ (L k).1 ∧ (L k).1 ≤ 3) ∧ has (z 60) (z 59 k) (L k).2.1 ∧ z 59 ((k : Int) + 1) = z 59 k + (L k).2.1.length ∧ 0 ≤ z 59 k ∧ z 59 ((k : Int) + 1) ≤ f
theorem c_open (d : Nat) {z : zH} (hz : zRR z) {c : Nat} {f x : Int} (e3 : z 57 3 = c) (hc : c ≤ 8) (ef : z 59 c = f) (hx : zR x) : xw (cM (d + 1) 23 [xR 20 57, xI (zI x)] (hI z)) (fun _ z' => z' 57 3 = (c + 1 : Nat) ∧ (∀ q, z' 58 q = if q = c then x else z 58 q) ∧ (∀ q, z' 59 q = if q = ((c + 1 : Nat) : Int) then f else z 59 q) ∧ z' 60 = z 60 ∧ z' 55 = z 55 ∧ fr [57, 58, 59] z z') := by
  have cr : zR (c : Int) := zR_s (by omega)
  have cr1 : zR ((c : Int) + 1) := zR_s (by omega)
  have h0r : zR 0 := zR_s (by omega)
  have b1 := bnd (a := (c : Int)) (n := 9) (by omega) (by omega) (by omega)
  have b2 := bnd (a := (c : Int)) (n := 10) (by omega) (by omega) (by omega)
  have b3 := bnd (a := (c : Int) + 1) (n := 10) (by omega) (by omega) (by omega)
  have c0 : (0 : Int) ≤ c := by omega
  have c1 : (0 : Int) ≤ (c : Int) + 1 := by omega
  rw [e_X4_open]
  simp only [zLit, Nat.reduceAdd, hI_fs, e3, lenX_s, if_neg b1]
  rw [if_pos (by rw [zI_lt cr (zR_s (by omega))]; omega)]
  simp only [zI_nat cr, zst c0]
  have y1 : zup z 58 c x 57 3 = c := by rw [zup_at, if_neg (by omega)]; exact e3
  simp only [hI_fs, y1, zI_add, hI_us]
  have y2 : zup (zup z 58 c x) 57 3 ((c : Int) + 1) 57 3 = (c : Int) + 1 := by rw [zup_at, if_pos ⟨rfl, rfl⟩]
  simp only [hI_fs, y2, zI_sub]
  rw [show (c : Int) + 1 - 1 = c by omega]
  simp only [if_neg b2, if_neg b3]
  have y3 : zup (zup z 58 c x) 57 3 ((c : Int) + 1) 59 c = f := by rw [zup_at, if_neg (by omega), zup_at, if_neg (by omega)]; exact ef
  simp only [zI_nat cr, zI_nat cr1, zld c0, y3, zst c1]
  have fr' : zR f := by rw [← ef]; exact hz _ _
  refine xw_ret h0r (zRR_up (zRR_up (zRR_up hz _ _ hx) _ _ cr1) _ _ fr') ⟨?_, fun q => ?_, fun q => ?_, ?_, ?_, fr_up (fr_up (fr_up (fr_rf _ _) _ _ rfl) _ _ rfl) _ _ rfl⟩
  · rw [zup_at, if_neg (by omega), y2]; omega
  · simp only [zup_at, Nat.reduceEqDiff, false_and, true_and, if_false]
  · simp only [zup_at, Nat.reduceEqDiff, false_and, true_and, if_false]
    rfl
  · rw [zup_ne _ _ _ (by decide), zup_ne _ _ _ (by decide), zup_ne _ _ _ (by decide)]
  · rw [zup_ne _ _ _ (by decide), zup_ne _ _ _ (by decide), zup_ne _ _ _ (by decide)]
def FL (z z' : zH) : Prop := fr [55, 57, 58, 59, 60] z z' ∧ ∀ q, q ≠ 7 → q ≠ 8 → (q ≠ 9 ∧ q ≠ 10) → z' 55 q = z 55 q
theorem FL_tr {z z1 z2 : zH} (h : FL z z1) (k : FL z1 z2) : FL z z2 := ⟨fr_tr h.1 k.1 rfl, fun q a b c => (k.2 q a b c).trans (h.2 q a b c)⟩
theorem FC_FL {cnt f : Int} {z z' : zH} (h : FC cnt f z z') : FL z z' := ⟨fr_mono h.1 rfl, h.2.1⟩
theorem CTK_L {K W : Nat → Int} {m : Nat} {z z' : zH} (h : CTK K W m z) (k : FL z z') : CTK K W m z' := by
  refine ⟨by rw [k.2 6 (by omega) (by omega) (by omega)]; exact h.1, fun j hj => ?_⟩
  rw [k.1 62 rfl, k.1 63 rfl]
  exact h.2 j hj
theorem c_isLine (d : Nat) {K W : Nat → Int} {B : Nat → Int} {m : Nat} (h : TKO K W B m) (hB : ∀ j, B j ≤ 240) (hW : ∀ j, K j = 1 → 0 ≤ W j) {z : zH} {i c : Nat} {f : Int} {L : LnT} (hz : zRR z) (hT : CTK K W m z) (hV : CV K W z i) (hi : i ≤ m) (hc : c ≤ 8) (hL : LCt z c L f) (hf : 2 * f ≤ B i) : xw (cM (d + 22) 78 [xR 25 55] (hI z)) (fun rv z' => rv = (if (pLine K W i).1 = true then 1 else 0) ∧ CV K W z' (pLine K W i).2.1 ∧ ((pLine K W i).1 = true → LCt z' (c + 1) (LnPut L c (W i, (pLine K W i).2.2)) (f + (pLine K W i).2.2.1.length)) ∧ FL z z') := by
  have h0r : zR 0 := zR_s (by omega)
  have h1r : zR 1 := zR_s (by omega)
  have r8 := hz 55 9
  have r9 := hz 55 10
  rw [hV.2.1] at r8
  rw [e_X9_isLine]
  simp only [zLit, hI_fs, hV.2.1]
  have no : ¬ (K i = 1 ∧ W i ≤ 3) → pLine K W i = (false, i, [], []) := by
    intro q
    unfold pLine
    rw [if_neg q]
  by_cases q1 : K i = 1
  · have v9 := hV.2.2.1 (by omega)
    rw [v9] at r9
    have w0 := hW i q1
    rw [if_pos (by rw [q1])]
    simp only [v9]
    by_cases q2 : W i ≤ 3
    · have i0 := (h.1 i).mpr (by omega)
      have b0 := h.2.1 i i0
      rw [if_neg (by rw [zI_lt (zR_s (by omega)) r9]; omega)]
      obtain ⟨l1, l2, l3, l4, l5⟩ := hL
      refine xw_k (c_open (d + 20) hz l1 hc l3 r9) ?_
      intro r1 z1 _ hz1 ⟨o1, o2, o3, o4, o5, o6⟩
      have e71 : z1 55 7 = (i : Int) := by rw [o5]; exact hV.1
      have F1 : FL z z1 := ⟨fr_mono o6 rfl, fun q _ _ _ => by rw [o5]⟩
      have V1 : CV K W z1 i := by unfold CV; rw [o5, o6 61 rfl]; exact hV
      have c59 : z1 59 ((c + 1 : Nat) : Int) = f := by rw [o3, if_pos rfl]
      have P1 : PreC K W B m ((c + 1 : Nat) : Int) z1 i f := ⟨hz1, CTK_L hT F1, V1, hi, o1, by omega, c59, l4, hf⟩
      simp only [hI_fs, e71, zI_add]
      refine xw_k (c_lookN (d + 20) h P1 (by omega)) ?_
      intro r2 z2 _ hz2 ⟨P2, F2, _⟩
      have e72 : z2 55 7 = ((i + 1 : Nat) : Int) := P2.2.2.1.1
      have cw := fun d => c_isWord d hz2 P2.2.2.1 (w := 4) (zR_s (by omega))
      simp only [cw, xbd_n, zB_0, hI_fs, e72, zI_add]
      have FF2 := FC_tr (FC_rf ((c + 1 : Nat) : Int) f z1) F2 (Int.le_refl _)
      by_cases q3 : wdA K W (i + 1) 4
      · rw [if_neg (fun y => y q3)]
        refine xw_k (c_lookN (d + 20) h P2 (by have := q3.1; omega)) ?_
        intro r3 z3 _ hz3 ⟨P3, F3, _⟩
        have FF3 := FC_tr FF2 F3 (Int.le_refl _)
        refine xw_k (c_condW d h hB P3) ?_
        intro rv z4 _ hz4 hp
        have hp0 := hp
        have pb := PB_cond h (PB_bro h 4) (i := i + 2) P3.2.2.2.1
        obtain ⟨p1, p2, p3, p4⟩ := hp
        subst p1
        have FF4 := FC_tr FF3 p4 (Int.le_refl _)
        have el : pLine K W i = if (pCond K W (bro K W 4) (i + 2)).1 = true then (if sgA K W (pCond K W (bro K W 4) (i + 2)).2.1 59 then (true, (pCond K W (bro K W 4) (i + 2)).2.1 + 1, (pCond K W (bro K W 4) (i + 2)).2.2) else (false, (pCond K W (bro K W 4) (i + 2)).2.1, [], [])) else (false, (pCond K W (bro K W 4) (i + 2)).2.1, [], []) := by
          unfold pLine
          rw [if_pos ⟨q1, q2⟩, if_pos q3]
        rw [show i + 1 + 1 = i + 2 from rfl] at *
        rw [el]
        generalize pCond K W (bro K W 4) (i + 2) = R at *
        by_cases x : R.1 = true
        · have P4 := PreC_p P3 hp0 pb x hz4
          have cb := fun d => c_isByte d hz4 p2 (w := 59) (zR_s (by omega))
          have e74 : z4 55 7 = (R.2.1 : Int) := p2.1
          rw [if_pos x, if_neg (by decide), if_pos x]
          simp only [cb, xbd_n, zB_0, hI_fs, e74, zI_add]
          by_cases y : sgA K W R.2.1 59
          · rw [if_neg (fun w => w y), if_pos y]
            refine xw_k (c_lookN (d + 20) h P4 (by have := y.1; omega)) ?_
            intro r5 z5 _ hz5 ⟨P5, F5, e60⟩
            have FF5 := FC_tr FF4 F5 (by omega)
            refine xw_ret h1r hz5 ⟨rfl, P5.2.2.1, fun _ => ?_, FL_tr F1 (FC_FL FF5)⟩
            have f59 := FF5.2.2.1
            have f60 := FF5.2.2.2
            have h57 : z5 57 3 = ((c + 1 : Nat) : Int) := P5.2.2.2.2.1
            have hc59 : z5 59 ((c + 1 : Nat) : Int) = f + (R.2.2.1.length : Int) := P5.2.2.2.2.2.2.1
            have e58 : z5 58 = z1 58 := FF5.1 58 rfl
            have hh : has (z5 60) f R.2.2.1 := by rw [e60]; exact (p3 x).2
            refine ⟨h57, by rw [f59 0 (by omega), o3, if_neg (by omega)]; exact l2, hc59, by omega, fun k hk => ?_⟩
            rw [e58, o2]
            by_cases e : k = c
            · subst e
              rw [if_pos rfl, f59 k (by omega), o3, if_neg (by omega), l3]
              unfold LnPut
              rw [if_pos rfl]
              have e2 : ((k : Int) + 1) = ((k + 1 : Nat) : Int) := by omega
              rw [e2, hc59]
              exact ⟨rfl, ⟨w0, q2⟩, hh, rfl, l4, Int.le_refl _⟩
            · have kc : k < c := by omega
              obtain ⟨a1, a2, a3, a4, a5, a6⟩ := l5 k kc
              have ek : z5 59 k = z 59 k := by rw [f59 k (by omega), o3, if_neg (by omega)]
              have ek1 : z5 59 ((k : Int) + 1) = z 59 ((k : Int) + 1) := by rw [f59 _ (by omega), o3, if_neg (by omega)]
              rw [if_neg (by omega), ek, ek1]
              unfold LnPut
              rw [if_neg (by omega)]
              refine ⟨a1, a2, has_t _ _ (fun j j0 j1 => ?_) a3, a4, a5, by omega⟩
              rw [f60 j (by omega), o4]
          · rw [if_pos y, if_neg y]
            exact xw_ret h0r hz4 ⟨rfl, p2, (fun w => by cases w), FL_tr F1 (FC_FL FF4)⟩
        · rw [if_neg x, if_pos rfl, if_neg x]
          exact xw_ret h0r hz4 ⟨rfl, p2, (fun w => by cases w), FL_tr F1 (FC_FL FF4)⟩
      · rw [if_pos q3]
        have el : pLine K W i = (false, i + 1, [], []) := by
          unfold pLine
          rw [if_pos ⟨q1, q2⟩, if_neg q3]
        rw [el]
        exact xw_ret h0r hz2 ⟨rfl, P2.2.2.1, (fun w => by cases w), FL_tr F1 (FC_FL FF2)⟩
    · rw [if_pos (by rw [zI_lt (zR_s (by omega)) r9]; omega), no (fun x => q2 x.2)]
      exact xw_ret h0r hz ⟨rfl, hV, (fun w => by cases w), ⟨fr_rf _ _, fun _ _ _ _ => rfl⟩⟩
  · rw [if_neg (by rw [zI_eq r8 (zR_s (by omega))]; exact q1), no (fun x => q1 x.1)]
    exact xw_ret h0r hz ⟨rfl, hV, (fun w => by cases w), ⟨fr_rf _ _, fun _ _ _ _ => rfl⟩⟩
