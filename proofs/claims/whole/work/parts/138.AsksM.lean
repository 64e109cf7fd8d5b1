/-! PURE, part 68: what the model asks of the part in view -/
theorem xb0 : xb01 (zI 0) = true := by decide
theorem xb1 : xb01 (zI 1) = true := by decide
theorem xbc {a : Int32} {h : xH} (e : xb01 a = true) : (bif xb01 a then some (a, h) else (none : xO)) = some (a, h) := by rw [e]; rfl
theorem m_isName_l (d : Nat) {z : zH} (hz : zRR z) {T : Int → Int} {n : Int} (hT : tpB T n) (hM : MT T n z) {o : Nat} (ho : o < 16) (hc : ∀ c, c ∈ strI o → 0 ≤ c ∧ c ≤ 127) {p e : Int} (hp : 0 ≤ p ∧ p ≤ e ∧ e ≤ n) (e19 : z 100 19 = p) (hl : e = p + (strI o).length) : ∀ (cs : List Int) (k : Nat), (strI o).drop k = cs → k + cs.length = (strI o).length → ∀ N, cs.length + 1 < N → r_X12_isName (d + 4) N 39 [some (xR 28 100), some (xR 5 o), some (xI (zI 1)), some (xI (zI (k : Int)))] [] (hI z) = some (zB (eqW T cs (p + k) e = true), hI z) := by
  have h0r : zR 0 := zR_s (by omega)
  have n10 : ¬ zI 1 = zI 0 := by decide
  have hn := hT.1
  have sl := fun d => s_len d ho (hI z)
  intro cs
  induction cs with
  | nil =>
    intro k hk kl N hN
    obtain ⟨N, rfl⟩ := Nat.exists_eq_succ_of_ne_zero (show N ≠ 0 by omega)
    simp only [List.length_nil] at kl
    rw [l_X12_isName_39]
    simp only [zLit, if_neg n10, sl, xbd_n]
    rw [if_neg (by rw [zI_lt (zR_s (by omega)) (zR_s (by omega))]; omega), xbc xb1]
    exact congrArg (fun t => some (t, hI z)) (zB_t (by simp only [eqW, decide_eq_true_eq]; omega))
  | cons c cs ih =>
    intro k hk kl N hN
    obtain ⟨N, rfl⟩ := Nat.exists_eq_succ_of_ne_zero (show N ≠ 0 by omega)
    simp only [List.length_cons] at kl hN
    obtain ⟨k1, k2, k3⟩ := drp _ _ _ _ hk
    have sc := fun d => s_char d ho k1 (hI z)
    rw [k2] at sc
    have cb := hc c (by rw [← List.take_append_drop k (strI o), hk]; exact List.mem_append_right _ (List.mem_cons_self ..))
    have ek : ((k : Int) + 1) = ((k + 1 : Nat) : Int) := by omega
    have pk : zR (p + (k : Int)) := zR_s (by omega)
    have b := bnd (a := p + (k : Int)) (n := 240) (by omega) (by omega) (by omega)
    have tb := hT.2 (p + k) (by omega) (by omega)
    have e3 := hM.2 (p + k) (by omega) (by omega)
    rw [l_X12_isName_39]
    simp only [zLit, if_neg n10, sl, xbd_n, hI_fs, e19, zI_add, lenX_s, if_neg b]
    rw [if_pos (by rw [zI_lt (zR_s (by omega)) (zR_s (by omega))]; omega)]
    simp only [sc, xbd_n]
    have er : hI z 103 (zI (p + (k : Int))).toNatClampNeg = zI (T (p + k) % 256) := by rw [zI_nat pk, zld (by omega), e3]
    simp only [er]
    by_cases x : T (p + k) = c
    · rw [if_pos (by rw [x, Int.emod_eq_of_lt (by omega) (by omega)]), ek, ih (k + 1) k3 (by omega) N (by omega)]
      have eb : eqW T (c :: cs) (p + k) e = eqW T cs (p + ((k + 1 : Nat) : Int)) e := by
        rw [eqW, decide_eq_true ⟨by omega, x⟩, Bool.true_and, ← ek, Int.add_assoc]
      simp only [eb]
    · rw [if_neg (by rw [zI_eq (zR_s (by omega)) (zR_s (by omega))]; omega)]
      obtain ⟨N, rfl⟩ := Nat.exists_eq_succ_of_ne_zero (show N ≠ 0 by omega)
      rw [l_X12_isName_39]
      simp only [zLit, if_true]
      rw [xbc xb0]
      refine congrArg (fun t => some (t, hI z)) (zB_f ?_)
      simp only [eqW, Bool.and_eq_true, decide_eq_true_eq]
      exact fun y => x y.1.2
theorem m_isName (d : Nat) {z : zH} (hz : zRR z) {T : Int → Int} {n : Int} (hT : tpB T n) (hM : MT T n z) {o : Nat} (ho : o < 16) (hc : ∀ c, c ∈ strI o → 0 ≤ c ∧ c ≤ 127) {p : Int} (hp : 0 ≤ p ∧ p ≤ n) (hV : MV T n z p) (h22 : z 100 22 = 0) : cM (d + 5) 211 [xR 28 100, xR 5 o] (hI z) = some (zB (kd T n p = 1 ∧ eqW T (strI o) p (rn T n p) = true), hI z) := by
  have h0r : zR 0 := zR_s (by omega)
  have hn := hT.1
  obtain ⟨v1, v2, v3⟩ := hV
  have rb : p ≤ rn T n p ∧ rn T n p ≤ n := by
    by_cases q : p < n
    · have := rn_b (T := T) q; omega
    · unfold rn; rw [if_pos (by omega)]; omega
  have sl := fun d => s_len d ho (hI z)
  have s90 := str_n ⟨o, ho⟩
  simp only at s90
  have ks : kd T n p = 1 ↔ so T n p = 1 := by
    unfold kd so
    split
    · simp
    · split
      · simp
      · split
        · split <;> simp
        · simp
  have ze : ∀ N, 0 < N → r_X12_isName (d + 4) N 39 [some (xR 28 100), some (xR 5 o), some (xI (zI 0)), some (xI (zI 0))] [] (hI z) = some (zI 0, hI z) := by
    intro N hN
    obtain ⟨N, rfl⟩ := Nat.exists_eq_succ_of_ne_zero (show N ≠ 0 by omega)
    rw [l_X12_isName_39]
    simp only [zLit, if_true]
    rw [xbc xb0]
  have sb : 0 ≤ so T n p ∧ so T n p ≤ 3 := by unfold so; split; omega; split; omega; split <;> omega
  rw [e_X12_isName, show xF = 999999 + 1 from rfl, l_X12_isName_0]
  simp only [zLit, hI_fs, h22, v1, v2, v3, if_true, zI_sub]
  by_cases q : so T n p = 1
  · rw [if_pos (by rw [q])]
    simp only [sl, xbd_n]
    by_cases w : rn T n p - p = (strI o).length
    · rw [if_pos (by rw [w])]
      have L := m_isName_l d hz hT hM ho hc (p := p) (e := rn T n p) ⟨hp.1, rb⟩ v1 (by omega) (strI o) 0 rfl (by omega) 999999 (by omega)
      rw [show ((0 : Nat) : Int) = 0 from rfl, Int.add_zero] at L
      rw [L]
      have e : (eqW T (strI o) p (rn T n p) = true) ↔ (kd T n p = 1 ∧ eqW T (strI o) p (rn T n p) = true) := ⟨fun x => ⟨ks.mpr q, x⟩, fun x => x.2⟩
      by_cases y : eqW T (strI o) p (rn T n p) = true
      · rw [← zB_t y, ← zB_t (e.mp y)]
      · rw [← zB_f y, ← zB_f (fun x => y x.2)]
    · rw [if_neg (by rw [zI_eq (zR_s (by omega)) (zR_s (by omega))]; exact w), ze _ (by omega)]
      exact congrArg (fun t => some (t, hI z)) (zB_f (fun x => w (by have := eqW_len _ _ x.2; omega)))
  · rw [if_neg (by rw [zI_eq (zR_s (by omega)) (zR_s (by omega))]; exact q), ze _ (by omega)]
    exact congrArg (fun t => some (t, hI z)) (zB_f (fun x => q (ks.mp x.1)))
theorem m_isNameF (d : Nat) {z : zH} {o : Nat} (h22 : z 100 22 = 1) : cM (d + 1) 211 [xR 28 100, xR 5 o] (hI z) = some (zI 0, hI z) := by
  have n10 : ¬ zI 1 = zI 0 := by decide
  rw [e_X12_isName, show xF = 999999 + 1 from rfl, l_X12_isName_0]
  simp only [zLit, hI_fs, h22, if_neg n10]
  obtain ⟨m, hm⟩ : ∃ m, (999999 : Nat) = m + 1 := ⟨999998, rfl⟩
  rw [hm, l_X12_isName_39]
  simp only [zLit, if_true]
  rw [xbc xb0]
theorem strs : strI 1 = [108, 101, 102, 116] ∧ strI 2 = [114, 105, 103, 104, 116] ∧ strI 3 = [115, 108, 111, 119, 101, 114] ∧ strI 4 = [102, 97, 115, 116, 101, 114] ∧ strI 12 = [105, 102] ∧ strI 15 = [111, 114] ∧ strI 14 = [97, 110, 100] ∧ strI 13 = [110, 111, 116] ∧ strI 5 = [104, 101, 105, 103, 104, 116] ∧ strI 6 = [115, 112, 101, 101, 100] ∧ strI 7 = [104, 101, 97, 100, 105, 110, 103] ∧ strI 8 = [116, 105, 99, 107] ∧ strI 9 = [103, 114, 111, 117, 110, 100] ∧ strI 10 = [104, 111, 117, 115, 101, 115] ∧ strI 11 = [99, 108, 101, 97, 114] := by decide +kernel
/-- the number of each of the model's names among the class's words -/
def wdO : List Nat := [99, 0, 1, 2, 3, 8, 9, 10, 11, 12, 13, 14, 4, 7, 6, 5]
theorem wdO_s : ∀ o : Fin 16, 0 < o.val → WDS[xnd 99 wdO o.val]? = some (strI o.val) := by decide +kernel
theorem str_c : ∀ o : Fin 16, 0 < o.val → ∀ c, c ∈ strI o.val → 0 ≤ c ∧ c ≤ 127 := by decide +kernel
abbrev isW (T : Int → Int) (n p w : Int) : Prop := kd T n p = 1 ∧ wt T n p = w
abbrev isS (T : Int → Int) (n p c : Int) : Prop := kd T n p = 3 ∧ wt T n p = c
theorem zB_iff {P Q : Prop} [Decidable P] [Decidable Q] (h : P ↔ Q) : zB P = zB Q := by
  by_cases q : P
  · rw [← zB_t q, ← zB_t (h.mp q)]
  · rw [← zB_f q, ← zB_f (fun x => q (h.mpr x))]
theorem m_isWord (d : Nat) {z : zH} (hz : zRR z) {T : Int → Int} {n : Int} (hT : tpB T n) (hM : MT T n z) {o : Nat} (ho : 0 < o ∧ o < 16) {p : Int} (hp : 0 ≤ p ∧ p ≤ n) (hV : MV T n z p) (h22 : z 100 22 = 0) : cM (d + 5) 211 [xR 28 100, xR 5 o] (hI z) = some (zB (isW T n p (xnd 99 wdO o : Nat)), hI z) := by
  rw [m_isName d hz hT hM ho.2 (str_c ⟨o, ho.2⟩ ho.1) hp hV h22]
  refine congrArg (fun t => some (t, hI z)) (zB_iff ?_)
  have w := wdI_i T p (rn T n p) (wdO_s ⟨o, ho.2⟩ ho.1)
  constructor
  · intro x
    exact ⟨x.1, by rw [(kd_1 x.1).2.2]; exact w.mpr x.2⟩
  · intro x
    exact ⟨x.1, w.mp (by rw [← (kd_1 x.1).2.2]; exact x.2)⟩
theorem m_isSign (d : Nat) {z : zH} (hz : zRR z) {T : Int → Int} {n : Int} (hT : tpB T n) (hM : MT T n z) {p : Int} (hp : 0 ≤ p ∧ p ≤ n) (hV : MV T n z p) (h22 : z 100 22 = 0) {c : Int} (hc : 0 ≤ c ∧ c ≤ 127) : cM (d + 1) 213 [xR 28 100, xI (zI c)] (hI z) = some (zB (isS T n p c), hI z) := by
  have hn := hT.1
  obtain ⟨v1, v2, v3⟩ := hV
  have pr : zR p := zR_s (by omega)
  have sb : 0 ≤ so T n p ∧ so T n p ≤ 3 := by unfold so; split; omega; split; omega; split <;> omega
  have ks : kd T n p = 3 ↔ so T n p = 3 := by
    unfold kd so
    split
    · simp
    · split
      · simp
      · split
        · split <;> simp
        · simp
  rw [e_X12_isSign]
  simp only [zLit, hI_fs, h22, v1, v3, if_true]
  by_cases q : so T n p = 3
  · have k3 := kd_3 (ks.mpr q)
    have b := bnd (a := p) (n := 240) hp.1 (by omega) (by omega)
    have tb := hT.2 p hp.1 k3.1
    have e3 := hM.2 p hp.1 k3.1
    rw [if_pos (by rw [q])]
    simp only [lenX_s, if_neg b]
    simp only [zI_nat pr, zld hp.1, e3]
    by_cases w : T p = c
    · rw [if_pos (by rw [w, Int.emod_eq_of_lt (by omega) (by omega)])]
      exact congrArg (fun t => some (t, hI z)) (zB_t ⟨ks.mpr q, by rw [k3.2.2.2]; exact w⟩)
    · rw [if_neg (by rw [zI_eq (zR_s (by omega)) (zR_s (by omega))]; omega)]
      exact congrArg (fun t => some (t, hI z)) (zB_f (fun x => w (by rw [← k3.2.2.2]; exact x.2)))
  · rw [if_neg (by rw [zI_eq (zR_s (by omega)) (zR_s (by omega))]; exact q)]
    exact congrArg (fun t => some (t, hI z)) (zB_f (fun x => q (ks.mp x.1)))
theorem m_isSignF (d : Nat) {z : zH} {c : Int} (h22 : z 100 22 = 1) : cM (d + 1) 213 [xR 28 100, xI (zI c)] (hI z) = some (zI 0, hI z) := by
  have n10 : ¬ zI 1 = zI 0 := by decide
  rw [e_X12_isSign]
  simp only [zLit, hI_fs, h22, if_neg n10]
/-- names of a row: from word b on, c of them -/
def nmO (T : Int → Int) (n p b c : Int) : Int := if kd T n p = 1 ∧ b ≤ wt T n p ∧ wt T n p < b + c then wt T n p - b else -1
theorem sc_110 : ∀ k : Fin 4, scX 110 k.val = 1 + k.val ∧ xnd 99 wdO (1 + k.val) = 0 + k.val := by decide +kernel
theorem sc_111 : ∀ k : Fin 7, scX 111 k.val = 5 + k.val ∧ xnd 99 wdO (5 + k.val) = 8 + k.val := by decide +kernel
theorem m_nameOf_l (d : Nat) {z : zH} (hz : zRR z) {T : Int → Int} {n : Int} (hT : tpB T n) (hM : MT T n z) {p : Int} (hp : 0 ≤ p ∧ p ≤ n) (hV : MV T n z p) (h22 : z 100 22 = 0) {a s b c : Nat} (hl : lenX a = c) (hc : c ≤ 7) (hs : ∀ k, k < c → scX a k = s + k ∧ xnd 99 wdO (s + k) = b + k) (hs1 : 1 ≤ s ∧ s + c ≤ 15) : ∀ (m k : Nat), k + m = c → ∀ N, m < N → r_X12_nameOf (d + 5) N 4 [some (xR 28 100), some (xR 7 a), some (xI (zI (nmO T n p b k))), some (xI (zI (k : Int)))] [] (hI z) = some (zI (nmO T n p b c), hI z) := by
  have h0r : zR 0 := zR_s (by omega)
  intro m
  induction m with
  | zero =>
    intro k hk N hN
    obtain ⟨N, rfl⟩ := Nat.exists_eq_succ_of_ne_zero (show N ≠ 0 by omega)
    rw [l_X12_nameOf_4]
    simp only [zLit, hl, zI_nI]
    rw [if_neg (by rw [zI_lt (zR_s (by omega)) (zR_s (by omega))]; omega), show k = c by omega]
  | succ m ih =>
    intro k hk N hN
    obtain ⟨N, rfl⟩ := Nat.exists_eq_succ_of_ne_zero (show N ≠ 0 by omega)
    have kr : zR (k : Int) := zR_s (by omega)
    have sk := hs k (by omega)
    have mw := fun d => m_isWord d hz hT hM (o := s + k) ⟨by omega, by omega⟩ hp hV h22
    rw [sk.2] at mw
    have bk := bnd (a := (k : Int)) (n := c) (by omega) (by omega) (by omega)
    have ek : ((k : Int) + 1) = ((k + 1 : Nat) : Int) := by omega
    have I := ih (k + 1) (by omega) N (by omega)
    rw [l_X12_nameOf_4]
    simp only [zLit, hl, zI_nI, if_neg bk]
    rw [if_pos (by rw [zI_lt kr (zR_s (by omega))]; omega)]
    simp only [zI_nat kr, Int.toNat_natCast, sk.1, mw, xbd_n, zB_0, zI_add, ek]
    by_cases q : isW T n p ((b + k : Nat) : Int)
    · rw [if_neg (fun x => x q)]
      have e1 : (k : Int) = nmO T n p b ((k + 1 : Nat) : Int) := by
        unfold nmO
        rw [if_pos ⟨q.1, by have := q.2; omega, by have := q.2; omega⟩, q.2]
        omega
      rw [e1]
      exact I
    · rw [if_pos q]
      have e1 : nmO T n p b k = nmO T n p b ((k + 1 : Nat) : Int) := by
        unfold nmO
        by_cases x : kd T n p = 1 ∧ (b : Int) ≤ wt T n p ∧ wt T n p < b + (k : Int)
        · rw [if_pos x, if_pos ⟨x.1, x.2.1, by omega⟩]
        · rw [if_neg x, if_neg (fun y => by
            by_cases w : wt T n p < b + (k : Int)
            · exact x ⟨y.1, y.2.1, w⟩
            · exact q ⟨y.1, by omega⟩)]
      rw [e1]
      exact I
theorem nmO_0 (T : Int → Int) (n p b : Int) : nmO T n p b 0 = -1 := by
  unfold nmO
  rw [if_neg (by omega)]
theorem m_nameDo (d : Nat) {z : zH} (hz : zRR z) {T : Int → Int} {n : Int} (hT : tpB T n) (hM : MT T n z) {p : Int} (hp : 0 ≤ p ∧ p ≤ n) (hV : MV T n z p) (h22 : z 100 22 = 0) : cM (d + 6) 212 [xR 28 100, xR 7 110] (hI z) = some (zI (nmO T n p 0 4), hI z) := by
  rw [e_X12_nameOf, show xF = 999999 + 1 from rfl, l_X12_nameOf_0]
  simp only [zLit, zI_neg]
  have l := m_nameOf_l d hz hT hM hp hV h22 (a := 110) (s := 1) (b := 0) (c := 4) (by decide +kernel) (by omega) (fun k hk => sc_110 ⟨k, hk⟩) (by omega) 4 0 (by omega) 999999 (by omega)
  rw [show ((0 : Nat) : Int) = 0 from rfl, nmO_0] at l
  exact l
theorem m_nameVal (d : Nat) {z : zH} (hz : zRR z) {T : Int → Int} {n : Int} (hT : tpB T n) (hM : MT T n z) {p : Int} (hp : 0 ≤ p ∧ p ≤ n) (hV : MV T n z p) (h22 : z 100 22 = 0) : cM (d + 6) 212 [xR 28 100, xR 7 111] (hI z) = some (zI (nmO T n p 8 7), hI z) := by
  rw [e_X12_nameOf, show xF = 999999 + 1 from rfl, l_X12_nameOf_0]
  simp only [zLit, zI_neg]
  have l := m_nameOf_l d hz hT hM hp hV h22 (a := 111) (s := 5) (b := 8) (c := 7) (by decide +kernel) (by omega) (fun k hk => sc_111 ⟨k, hk⟩) (by omega) 7 0 (by omega) 999999 (by omega)
  rw [show ((0 : Nat) : Int) = 0 from rfl, nmO_0] at l
  exact l
theorem m_nameF_l (d : Nat) {z : zH} (h22 : z 100 22 = 1) {a c : Nat} (hl : lenX a = c) (hc : c ≤ 7) : ∀ (m k : Nat), k + m = c → ∀ N, m < N → r_X12_nameOf (d + 1) N 4 [some (xR 28 100), some (xR 7 a), some (xI (zI (-1))), some (xI (zI (k : Int)))] [] (hI z) = some (zI (-1), hI z) := by
  intro m
  induction m with
  | zero =>
    intro k hk N hN
    obtain ⟨N, rfl⟩ := Nat.exists_eq_succ_of_ne_zero (show N ≠ 0 by omega)
    rw [l_X12_nameOf_4]
    simp only [zLit, hl, zI_nI]
    rw [if_neg (by rw [zI_lt (zR_s (by omega)) (zR_s (by omega))]; omega)]
  | succ m ih =>
    intro k hk N hN
    obtain ⟨N, rfl⟩ := Nat.exists_eq_succ_of_ne_zero (show N ≠ 0 by omega)
    have kr : zR (k : Int) := zR_s (by omega)
    have bk := bnd (a := (k : Int)) (n := c) (by omega) (by omega) (by omega)
    have ek : ((k : Int) + 1) = ((k + 1 : Nat) : Int) := by omega
    have mf := fun d o => m_isNameF d (z := z) (o := o) h22
    rw [l_X12_nameOf_4]
    simp only [zLit, hl, zI_nI, if_neg bk]
    rw [if_pos (by rw [zI_lt kr (zR_s (by omega))]; omega)]
    simp only [mf, xbd_n, if_true, zI_add, ek]
    exact ih (k + 1) (by omega) N (by omega)
theorem m_nameF (d : Nat) {z : zH} (h22 : z 100 22 = 1) {a : Nat} (ha : a = 110 ∨ a = 111) : cM (d + 2) 212 [xR 28 100, xR 7 a] (hI z) = some (zI (-1), hI z) := by
  rw [e_X12_nameOf, show xF = 999999 + 1 from rfl, l_X12_nameOf_0]
  simp only [zLit, zI_neg]
  rcases ha with e | e <;> subst e
  · exact m_nameF_l d h22 (a := 110) (c := 4) (by decide +kernel) (by omega) 4 0 (by omega) 999999 (by omega)
  · exact m_nameF_l d h22 (a := 111) (c := 7) (by decide +kernel) (by omega) 7 0 (by omega) 999999 (by omega)
