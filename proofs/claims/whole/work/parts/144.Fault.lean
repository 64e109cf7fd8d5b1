/-! PURE, part 74: the class's FAULT -/
abbrev Kk (T : Int → Int) (n : Int) : Nat → Int := fun i => kd T n (stN T n i)
abbrev Ww (T : Int → Int) (n : Int) : Nat → Int := fun i => wt T n (stN T n i)
theorem stN_n {T : Int → Int} {n : Int} {m : Nat} (h : stN T n m = n) : ∀ k : Nat, stN T n (m + k) = n := by
  intro k
  induction k with
  | zero => exact h
  | succ k ih =>
    show sk T n (rn T n (stN T n (m + k))) = n
    rw [ih]
    have e : rn T n n = n := by unfold rn; rw [if_pos (Int.le_refl _)]
    rw [e, sk_e (Int.le_refl _)]
theorem Tks_O {T : Int → Int} {n : Int} {m : Nat} (h : Tks T n m) : TKO (Kk T n) (Ww T n) (stN T n) m := by
  obtain ⟨h1, h2, h3, h4⟩ := h
  refine ⟨fun i => ?_, fun i hi => ?_, fun i k1 w5 w7 => ?_, fun i k2 => ?_, h2⟩
  · show i < m ↔ ¬ kd T n (stN T n i) = 0
    rw [kd_0]
    constructor
    · intro hi; have := h4 i hi; omega
    · intro hi
      by_cases q : i < m
      · exact q
      · have := stN_n h3 (i - m)
        rw [show m + (i - m) = i by omega] at this
        omega
  · have a := h4 i hi
    have b := rn_b (T := T) a
    have c := stN_s (T := T) h1.1 a
    omega
  · have k := kd_1 k1
    have c := stN_s (T := T) h1.1 k.1
    have e := k.2.2
    have w5' : 5 ≤ wdI T (stN T n i) (rn T n (stN T n i)) := by rw [← e]; exact w5
    have w7' : wdI T (stN T n i) (rn T n (stN T n i)) ≤ 7 := by rw [← e]; exact w7
    have w : wdI T (stN T n i) (rn T n (stN T n i)) = ((5 : Nat) : Int) ∨ wdI T (stN T n i) (rn T n (stN T n i)) = ((6 : Nat) : Int) ∨ wdI T (stN T n i) (rn T n (stN T n i)) = ((7 : Nat) : Int) := by omega
    rcases w with w | w | w
    · have l := eqW_len _ _ ((wdI_i T _ _ (j := 5) (w := [111, 114]) rfl).mp w)
      simp only [List.length_cons, List.length_nil] at l
      omega
    · have l := eqW_len _ _ ((wdI_i T _ _ (j := 6) (w := [97, 110, 100]) rfl).mp w)
      simp only [List.length_cons, List.length_nil] at l
      omega
    · have l := eqW_len _ _ ((wdI_i T _ _ (j := 7) (w := [110, 111, 116]) rfl).mp w)
      simp only [List.length_cons, List.length_nil] at l
      omega
  · have k := kd_2 h1.2 k2
    exact ⟨k.2.2.2.2.1, k.2.2.2.2.2⟩
theorem Ww_0 {T : Int → Int} {n : Int} (j : Nat) (h : Kk T n j = 1) : 0 ≤ Ww T n j := by
  have k := kd_1 h
  show 0 ≤ wt T n (stN T n j)
  rw [k.2.2]
  exact (wdI_b _ _ _).1
def FX (z z' : zH) : Prop := fr [55, 57, 58, 59, 60] z z' ∧ ∀ q, q ≠ 7 → q ≠ 8 → (q ≠ 9 ∧ q ≠ 10) → z' 55 q = z 55 q
/-- what the class's FAULT tells -/
def PF (T : Int → Int) (n : Int) (z0 : zH) (R : Bool × Nat × LnT × Nat) (r : Int) (z' : zH) : Prop := (R.1 = true → r = -1 ∧ ∃ f, LCt z' R.2.2.2 R.2.2.1 f ∧ 2 * f ≤ 240 ∧ R.2.2.2 ≤ 9) ∧ (R.1 ≠ true → r = stN T n R.2.1) ∧ FL z0 z'
theorem c_fault_l (d : Nat) {T : Int → Int} {n : Int} {m : Nat} (hT : Tks T n m) {z0 : zH} (h61 : ∀ j : Nat, j ≤ m → z0 61 j = stN T n j) : ∀ (g : Nat) (i : Nat) (L : LnT) (c : Nat) (f : Int) (z : zH), c + g = 9 → zRR z → CTK (Kk T n) (Ww T n) m z → CV (Kk T n) (Ww T n) z i → i ≤ m → LCt z c L f → 2 * f ≤ stN T n i → FL z0 z → ∀ N, g + 1 < N → xw (r_X9_fault (d + 22) N 20 [some (xR 25 55), some (xI (zI 1)), some (xI (zI (c : Int)))] [] (hI z)) (PF T n z0 (rdL (Kk T n) (Ww T n) g i L c)) := by
  have h0r : zR 0 := zR_s (by omega)
  have m1r : zR (-1) := zR_s (by omega)
  have n10 : ¬ zI 1 = zI 0 := by decide
  have O := Tks_O hT
  have hB : ∀ j : Nat, stN T n j ≤ 240 := fun j => by have := (stN_b (T := T) hT.1.1 j).2; have := hT.1.2; omega
  have plc : ∀ (i : Nat) (z : zH), CV (Kk T n) (Ww T n) z i → i ≤ m → FL z0 z → zRR z → hI z 55 8 = zI (stN T n i) := by
    intro i z hV hi hF hz
    simp only [hI_fs, hV.2.2.2, hF.1 61 rfl, h61 i hi]
  have rs : ∀ i : Nat, zR (stN T n i) := fun i => by have := stN_b (T := T) hT.1.1 i; have := hB i; exact zR_s (by omega)
  intro g
  induction g with
  | zero =>
    intro i L c f z hc hz hC hV hi hL hf hF N hN
    obtain ⟨N, rfl⟩ := Nat.exists_eq_succ_of_ne_zero (show N ≠ 0 by omega)
    have P := plc i z hV hi hF hz
    have r8 := hz 55 9
    rw [hV.2.1] at r8
    rw [l_X9_fault_20]
    simp only [zLit, zI_neg, if_neg n10, P]
    rw [if_neg (by rw [zI_lt (zR_s (by omega)) (zR_s (by omega))]; omega)]
    simp only [hI_fs, hV.2.1]
    unfold rdL
    by_cases q : Kk T n i = 0
    · rw [if_pos (by rw [q])]
      refine xw_ret m1r hz ⟨fun _ => ⟨rfl, f, hL, by have := hB i; omega, by show c ≤ 9; omega⟩, fun x => absurd (decide_eq_true q) x, hF⟩
    · rw [if_neg (by rw [zI_eq r8 h0r]; exact q)]
      exact xw_ret (rs i) hz ⟨fun x => absurd (of_decide_eq_true x) q, fun _ => rfl, hF⟩
  | succ g ih =>
    intro i L c f z hc hz hC hV hi hL hf hF N hN
    obtain ⟨N, rfl⟩ := Nat.exists_eq_succ_of_ne_zero (show N ≠ 0 by omega)
    have P := plc i z hV hi hF hz
    have r8 := hz 55 9
    rw [hV.2.1] at r8
    rw [l_X9_fault_20]
    simp only [zLit, zI_neg, if_neg n10, P, zI_add]
    rw [if_pos (by rw [zI_lt (zR_s (by omega)) (zR_s (by omega))]; omega)]
    simp only [hI_fs, hV.2.1]
    unfold rdL
    by_cases q : Kk T n i = 0
    · rw [if_pos (by rw [q]), if_pos (by rw [q]), if_pos q]
      exact xw_ret m1r hz ⟨fun _ => ⟨rfl, f, hL, by have := hB i; omega, by show c ≤ 9; omega⟩, (fun x => absurd rfl x), hF⟩
    · rw [if_neg (by rw [zI_eq r8 h0r]; exact q), if_neg q]
      refine xw_k (c_isLine d O hB Ww_0 hz hC hV hi (by omega) hL hf) ?_
      intro rv z1 _ hz1 ⟨p1, p2, p3, p4⟩
      subst p1
      have F1 := FL_tr hF p4
      have C1 := CTK_L hC p4
      have pb := PB_line O hi
      by_cases x : (pLine (Kk T n) (Ww T n) i).1 = true
      · rw [if_pos x, if_pos x]
        have y := pb.2.2 x
        rw [show (c : Int) + 1 = ((c + 1 : Nat) : Int) by omega]
        exact ih _ _ (c + 1) _ z1 (by omega) hz1 C1 p2 pb.2.1 (p3 x) (by omega) F1 N (by omega)
      · rw [if_neg x, if_neg x]
        obtain ⟨N, rfl⟩ := Nat.exists_eq_succ_of_ne_zero (show N ≠ 0 by omega)
        have P1 := plc _ z1 p2 pb.2.1 F1 hz1
        rw [l_X9_fault_20]
        simp only [zLit, if_true, P1, ite_self]
        exact xw_ret (rs _) hz1 ⟨(fun y => by cases y), fun _ => rfl, F1⟩
theorem c_draft0 (d : Nat) {z : zH} (hz : zRR z) : xw (cM (d + 1) 22 [xR 20 57] (hI z)) (fun _ z' => z' 57 3 = 0 ∧ z' 59 0 = 0 ∧ fr [57, 59] z z') := by
  have h0r : zR 0 := zR_s (by omega)
  have b := bnd (a := 0) (n := 10) (by omega) (by omega) (by omega)
  rw [e_X4_begin]
  simp only [zLit, Nat.reduceAdd, lenX_s, if_neg b, hI_us]
  simp only [zI_nat h0r, zst (show (0 : Int) ≤ 0 by omega)]
  refine xw_ret h0r (zRR_up (zRR_up hz _ _ h0r) _ _ h0r) ⟨?_, ?_, fr_up (fr_up (fr_rf _ _) _ _ rfl) _ _ rfl⟩
  · rw [zup_at, if_neg (by omega), zup_at, if_pos ⟨rfl, rfl⟩]
  · rw [zup_at, if_pos ⟨rfl, rfl⟩]
def L00 : LnT := fun _ => (0, [], [])
/-- what both read: from the tape T of n bytes -/
abbrev RD (T : Int → Int) (n : Int) : Bool × Nat × LnT × Nat := rdL (Kk T n) (Ww T n) 9 0 L00 0
theorem c_fault (d : Nat) {T : Int → Int} {n : Int} (hT : tpB T n) {z : zH} (hz : zRR z) (h1 : z 55 1 = n) (h56 : z 56 = T) : xw (cM (d + 23) 69 [xR 25 55] (hI z)) (fun r z' => (∃ m, Tks T n m) ∧ ((RD T n).1 = true → r = -1 ∧ ∃ f, LCt z' (RD T n).2.2.2 (RD T n).2.2.1 f ∧ 2 * f ≤ 240 ∧ (RD T n).2.2.2 ≤ 9) ∧ ((RD T n).1 ≠ true → r = stN T n (RD T n).2.1) ∧ fr [55, 57, 58, 59, 60, 61, 62, 63] z z' ∧ ∀ q, q < 6 → z' 55 q = z 55 q) := by
  rw [e_X9_fault, show xF = 999999 + 1 from rfl, l_X9_fault_0]
  refine xw_k (c_split (d + 16) hT hz h1 h56) ?_
  intro r1 z1 _ hz1 ⟨m, ⟨c1, c2⟩, tk, f1, g1⟩
  refine xw_k (c_draft0 (d + 21) hz1) ?_
  intro r2 z2 _ hz2 ⟨b1, b2, f2⟩
  have C2 : CTK (Kk T n) (Ww T n) m z2 := by
    refine ⟨by rw [f2 55 rfl]; exact c1, fun j hj => ?_⟩
    rw [f2 62 rfl, f2 63 rfl]
    exact (c2 j hj).2
  have lk := c_look (d + 21) (K := Kk T n) (W := Ww T n) (m := m) tk.2.1 hz2 C2 0 0 (p := 0) (by omega)
  simp only [zLit]
  refine xw_k lk ?_
  intro r3 z3 _ hz3 ⟨v3, F3, e59, e60⟩
  have C3 := CTK_t C2 F3
  have s0 := (stN_b (T := T) tk.1.1 0).1
  refine xw_m (c_fault_l d tk (z0 := z3) (fun j hj => by rw [F3.1 61 rfl, f2 61 rfl]; exact (c2 j hj).1) 9 0 L00 0 0 z3 (by omega) hz3 C3 v3 (by omega) ⟨by rw [F3.1 57 rfl]; exact b1, by rw [e59]; exact b2, by rw [e59]; exact b2, by omega, fun k hk => absurd hk (by omega)⟩ (by omega) ⟨fr_rf _ _, fun _ _ _ _ => rfl⟩ 999999 (by omega)) ?_
  intro r z4 _ _ ⟨p1, p2, p3⟩
  refine ⟨⟨m, tk⟩, p1, p2, fr_tr (fr_mono f1 (T := [55, 57, 58, 59, 60, 61, 62, 63]) rfl) (fr_tr (fr_mono f2 (T := [55, 57, 58, 59, 60, 61, 62, 63]) rfl) (fr_tr (fr_mono F3.1 (T := [55, 57, 58, 59, 60, 61, 62, 63]) rfl) (fr_mono p3.1 rfl) rfl) rfl) rfl, fun q hq => ?_⟩
  rw [p3.2 q (by omega) (by omega) (by omega), F3.2.1 q (by omega) (by omega) (by omega), f2 55 rfl]
  exact g1 q (by omega)
