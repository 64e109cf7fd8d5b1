/-! PURE, part 34: ASKS -/
def Tr (F n a : Int) (z y : zH) : Prop := (zRR z ∧ zRR y) ∧ (z 66 2 = F ∧ y 100 41 = F) ∧ (z 66 3 = n ∧ y 100 42 = n) ∧ (z 66 4 = a ∧ y 100 43 = a) ∧ z 66 1 = y 100 40 ∧ (0 ≤ y 100 40 ∧ y 100 40 ≤ 30) ∧ (∀ i, 0 ≤ i → i < y 100 40 → z 67 i = y 123 i) ∧ z 66 5 = y 100 44 ∧ (z 66 5 = 0 ∨ (z 66 5 = 1 ∧ a = n))
/-- class and model, from traces alike to traces alike, answer alike -/
def sim (F n a : Int) (oc om : xH → xO) : Prop := ∀ z y, Tr F n a z y → ∃ r z' y', oc (hI z) = some (r, hI z') ∧ om (hI y) = some (r, hI y') ∧ Tr F n a z' y' ∧ fr [66, 67] z z' ∧ fr [100, 123] y y' ∧ ff [40, 44] y y'
theorem sim_bd {F n a : Int} {oc om : xH → xO} {fc fm : Int32 → xH → xO} (h : sim F n a oc om) (k : ∀ r, sim F n a (fc r) (fm r)) : sim F n a (fun h => xbd (oc h) fc) (fun h => xbd (om h) fm) := by
  intro z y t
  obtain ⟨r, z1, y1, e1, e2, t1, f1, f2, f3⟩ := h z y t
  obtain ⟨r2, z2, y2, e3, e4, t2, g1, g2, g3⟩ := k r z1 y1 t1
  refine ⟨r2, z2, y2, ?_, ?_, t2, fr_tr f1 g1 rfl, fr_tr f2 g2 rfl, ff_tr f3 g3 rfl⟩
  · show xbd (oc (hI z)) fc = _
    rw [e1, xbd_n]
    exact e3
  · show xbd (om (hI y)) fm = _
    rw [e2, xbd_n]
    exact e4
theorem sim_rt {F n a : Int} (g : Int32 → Int32 → Int32 → Int32 → Int32) (r : Int32) : sim F n a (fun h => some (g r (zI F) (zI n) (zI a), h)) (fun h => some (g r (zI F) (zI n) (zI a), h)) := by
  intro z y t
  exact ⟨_, z, y, rfl, rfl, t, fr_rf _ _, fr_rf _ _, ff_rf _ _⟩
theorem sim_c {F n a : Int} {oc oc' om om' : xH → xO} (h : sim F n a oc' om') (e1 : ∀ z y, Tr F n a z y → oc (hI z) = oc' (hI z)) (e2 : ∀ z y, Tr F n a z y → om (hI y) = om' (hI y)) : sim F n a oc om := by
  intro z y t
  obtain ⟨r, z1, y1, a1, a2, a3⟩ := h z y t
  exact ⟨r, z1, y1, by rw [e1 z y t]; exact a1, by rw [e2 z y t]; exact a2, a3⟩
/-- a body begins -/
def spBeg (z : zH) (b : Int) : zH := if z 66 1 < 30 then zup (zup z 67 (z 66 1) b) 66 1 (z 66 1 + 1) else z
def spBegM (y : zH) (b : Int) : zH := if y 100 40 < 30 then zup (zup y 123 (y 100 40) b) 100 40 (y 100 40 + 1) else y
theorem Tr_beg {F n a : Int} {z y : zH} (t : Tr F n a z y) {b : Int} (hb : zR b) : Tr F n a (spBeg z b) (spBegM y b) ∧ fr [66, 67] z (spBeg z b) ∧ fr [100, 123] y (spBegM y b) ∧ ff [40, 44] y (spBegM y b) := by
  obtain ⟨⟨hz, hy⟩, ⟨a1, a2⟩, ⟨b1, b2⟩, ⟨c1, c2⟩, d, e, f, g, h⟩ := t
  unfold spBeg spBegM
  rw [d]
  by_cases q : y 100 40 < 30
  · rw [if_pos q, if_pos q]
    refine ⟨⟨⟨zRR_up (zRR_up hz _ _ hb) _ _ (zR_s (by omega)), zRR_up (zRR_up hy _ _ hb) _ _ (zR_s (by omega))⟩, ⟨?_, ?_⟩, ⟨?_, ?_⟩, ⟨?_, ?_⟩, ?_, ?_, ?_, ?_, ?_⟩, fr_up (fr_up (fr_rf _ _) _ _ rfl) _ _ rfl, fr_up (fr_up (fr_rf _ _) _ _ rfl) _ _ rfl, ff_up (ff_ne (ff_rf _ _) _ _ (by decide)) _ rfl⟩
    all_goals simp only [zup_at, and_self, and_true, true_and, and_false, false_and, if_true, if_false, reduceIte, Int.reduceEq, reduceCtorEq, Nat.reduceEqDiff]
    all_goals (try assumption)
    · omega
    · intro i i0 i1
      by_cases w : i = y 100 40
      · rw [if_pos w, if_pos w]
      · rw [if_neg w, if_neg w]
        exact f i i0 (by omega)
  · rw [if_neg q, if_neg q]
    exact ⟨⟨⟨hz, hy⟩, ⟨a1, a2⟩, ⟨b1, b2⟩, ⟨c1, c2⟩, d, e, f, g, h⟩, fr_rf _ _, fr_rf _ _, ff_rf _ _⟩
theorem m_began (d : Nat) {y : zH} (hy : zRR y) (h : 0 ≤ y 100 40 ∧ y 100 40 ≤ 30) {b : Int} : cM (d + 1) 252 [xR 28 100, xI (zI b)] (hI y) = some (zI 0, hI (spBegM y b)) := by
  have hr : zR (y 100 40) := hy _ _
  have h0r : zR 0 := zR_s (by omega)
  rw [e_X12_began]
  unfold spBegM
  simp only [hI_fs, zLit, lenX_s]
  by_cases q : y 100 40 < 30
  · rw [if_pos (by rw [zI_lt hr (zR_s (by omega))]; exact q), if_pos q, if_neg (by rw [zI_lt hr h0r, zI_nat hr]; omega), zI_nat hr, zst h.1, zI_add]
    simp only [hI_us, hI_n, show ((40 : Nat) : Int) = 40 from rfl]
  · rw [if_neg (by rw [zI_lt hr (zR_s (by omega))]; exact q), if_neg q]
/-- the body of a FORM for one of ASKS: the class's number, the FORM that has it -/
def askB : List (Nat × Nat × Nat × Nat) := [(10, 11, 12, 13), (10, 20, 12, 13), (30, 20, 12, 31), (10, 40, 12, 13), (10, 11, 50, 13), (60, 61, 12, 31), (70, 71, 72, 73)]
def askF : List (Nat × Nat × Nat × Nat) := [(0, 0, 0, 0), (0, 1, 0, 0), (2, 1, 0, 2), (0, 3, 0, 0), (0, 0, 4, 0), (5, 5, 0, 2), (6, 6, 6, 6)]
def askAt (l : List (Nat × Nat × Nat × Nat)) (f k : Nat) : Int := let t := xnd (0, 0, 0, 0) l f; if k = 0 then t.1 else if k = 1 then t.2.1 else if k = 2 then t.2.2.1 else t.2.2.2
theorem kc3_e : kcX 3 0 = zI 10 ∧ kcX 3 1 = zI 11 ∧ kcX 3 2 = zI 12 ∧ kcX 3 3 = zI 13 ∧ kcX 3 4 = zI 0 ∧ kcX 3 5 = zI 20 ∧ kcX 3 6 = zI 0 ∧ kcX 3 7 = zI 0 ∧ kcX 3 8 = zI 30 ∧ kcX 3 9 = zI 0 ∧ kcX 3 10 = zI 0 ∧ kcX 3 11 = zI 31 ∧ kcX 3 12 = zI 0 ∧ kcX 3 13 = zI 40 ∧ kcX 3 14 = zI 0 ∧ kcX 3 15 = zI 0 ∧ kcX 3 16 = zI 0 ∧ kcX 3 17 = zI 0 ∧ kcX 3 18 = zI 50 ∧ kcX 3 19 = zI 0 ∧ kcX 3 20 = zI 60 ∧ kcX 3 21 = zI 61 ∧ kcX 3 22 = zI 0 ∧ kcX 3 23 = zI 0 ∧ kcX 3 24 = zI 70 ∧ kcX 3 25 = zI 71 ∧ kcX 3 26 = zI 72 ∧ kcX 3 27 = zI 73 ∧ klX 3 = 28 := by
  (repeat' apply And.intro) <;> decide +kernel
theorem c_bodyL : ∀ f : Fin 7, ∀ k : Fin 4, (if (zI (f.val : Int) * zI 4 + zI (k.val : Int)) < zI 0 ∨ klX 3 ≤ (zI (f.val : Int) * zI 4 + zI (k.val : Int)).toNatClampNeg then (0 : Int32) else kcX 3 (zI (f.val : Int) * zI 4 + zI (k.val : Int)).toNatClampNeg) = (if askAt askF f.val k.val = (f.val : Int) then zI (askAt askB f.val k.val) else zI 0) ∧ ¬ ((zI (f.val : Int) * zI 4 + zI (k.val : Int)) < zI 0 ∨ klX 3 ≤ (zI (f.val : Int) * zI 4 + zI (k.val : Int)).toNatClampNeg) := by decide +kernel
theorem c_body (d : Nat) {f k : Int} (hf : 0 ≤ f ∧ f < 7) (hk : 0 ≤ k ∧ k < 4) (h : xH) : cM (d + 1) 3 [xI (zI f), xI (zI k)] h = some (if askAt askF f.toNat k.toNat = f then zI (askAt askB f.toNat k.toNat) else zI 0, h) := by
  have e := c_bodyL ⟨f.toNat, by omega⟩ ⟨k.toNat, by omega⟩
  simp only [Int.toNat_of_nonneg hf.1, Int.toNat_of_nonneg hk.1] at e
  obtain ⟨e1, e2⟩ := e
  rw [if_neg e2] at e1
  rw [e_X0_body]
  simp only [zLit]
  rw [if_neg (by rw [zI_lt (zR_s (by omega)) (zR_s (by omega))]; omega), if_pos (by rw [zI_lt (zR_s (by omega)) (zR_s (by omega))]; omega), if_neg (by rw [zI_lt (zR_s (by omega)) (zR_s (by omega))]; omega), if_pos (by rw [zI_lt (zR_s (by omega)) (zR_s (by omega))]; omega), if_neg e2, e1]
theorem askL : ∀ f : Fin 7, ∀ k : Fin 4, (askAt askF f.val k.val = (f.val : Int) ∧ 10 ≤ askAt askB f.val k.val ∧ askAt askB f.val k.val ≤ 73) ∨ (askAt askF f.val k.val ≠ (f.val : Int) ∧ 0 ≤ spAb (f.val : Int) ∧ spAb (f.val : Int) < 7 ∧ askAt askF f.val k.val = askAt askF (spAb (f.val : Int)).toNat k.val ∧ askAt askB f.val k.val = askAt askB (spAb (f.val : Int)).toNat k.val) := by decide +kernel
theorem ask_st {f k : Int} (hf : 0 ≤ f ∧ f < 7) (hk : 0 ≤ k ∧ k < 4) : (askAt askF f.toNat k.toNat = f ∧ 10 ≤ askAt askB f.toNat k.toNat ∧ askAt askB f.toNat k.toNat ≤ 73) ∨ (askAt askF f.toNat k.toNat ≠ f ∧ 0 ≤ spAb f ∧ spAb f < 7 ∧ askAt askF f.toNat k.toNat = askAt askF (spAb f).toNat k.toNat ∧ askAt askB f.toNat k.toNat = askAt askB (spAb f).toNat k.toNat) := by
  have h := askL ⟨f.toNat, by omega⟩ ⟨k.toNat, by omega⟩
  simp only [Int.toNat_of_nonneg hf.1] at h
  exact h
/-- so far up its FORM is -/
def spUp (f : Int) : Nat := if f = 5 then 3 else if f = 2 then 2 else if f = 1 ∨ f = 3 ∨ f = 4 then 1 else 0
theorem c_asked_l (d : Nat) {k dp : Int} (hk : 0 ≤ k ∧ k < 4) (hd : 0 ≤ dp ∧ dp < 40) (x : Int32) (h : xH) : ∀ (m : Nat) (f i : Int), 0 ≤ f → f < 7 → spUp f ≤ m → 0 ≤ i → i + m ≤ 5 → ∀ n, m < n → r_X0_asked (d + 1) n 6 [some (xR 16 66), none, some (xI (zI k)), some (xI x), some (xI (zI dp)), some (xI (zI f)), some (xI (zI i))] [] h = xbd (cM (d + 1) 5 [xR 16 66, xI (zI (askAt askB f.toNat k.toNat)), xI x, xI (zI (dp + 1))] h) fun r h => some (r, h) := by
  intro m
  induction m with
  | zero =>
    intro f i f0 f1 hu i0 i1 n hn
    obtain ⟨n, rfl⟩ : ∃ j, n = j + 1 := ⟨n - 1, by omega⟩
    have e := ask_st ⟨f0, f1⟩ hk
    have hf06 : f = 0 ∨ f = 6 := by unfold spUp at hu; split at hu <;> (try omega); split at hu <;> (try omega); split at hu <;> omega
    have e : askAt askF f.toNat k.toNat = f ∧ 10 ≤ askAt askB f.toNat k.toNat ∧ askAt askB f.toNat k.toNat ≤ 73 := by
      rcases e with e | e
      · exact e
      · exfalso
        have := e.2.1
        rcases hf06 with q | q <;> subst q <;> revert this <;> decide
    have cb := fun d => c_body d ⟨f0, f1⟩ hk h
    simp only [if_pos e.1] at cb
    rw [l_X0_asked_6]
    simp only [zLit, zI_add]
    rw [if_pos (by rw [zI_lt (zR_s (by omega)) (zR_s (by omega))]; omega), if_neg (by rw [zI_lt (zR_s (by omega)) (zR_s (by omega))]; omega)]
    simp only [cb, xbd_n]
    rw [if_neg (by rw [zI_eq (zR_s (by omega)) (zR_s (by omega))]; omega), if_neg (by rw [zI_lt (zR_s (by omega)) (zR_s (by omega))]; omega), if_pos (by rw [zI_lt (zR_s (by omega)) (zR_s (by omega))]; omega)]
  | succ m ih =>
    intro f i f0 f1 hu i0 i1 n hn
    obtain ⟨n, rfl⟩ : ∃ j, n = j + 1 := ⟨n - 1, by omega⟩
    have cb := fun d => c_body d ⟨f0, f1⟩ hk h
    rw [l_X0_asked_6]
    simp only [zLit, zI_add]
    rw [if_pos (by rw [zI_lt (zR_s (by omega)) (zR_s (by omega))]; omega), if_neg (by rw [zI_lt (zR_s (by omega)) (zR_s (by omega))]; omega)]
    rcases ask_st ⟨f0, f1⟩ hk with e | e
    · simp only [if_pos e.1] at cb
      simp only [cb, xbd_n]
      rw [if_neg (by rw [zI_eq (zR_s (by omega)) (zR_s (by omega))]; omega), if_neg (by rw [zI_lt (zR_s (by omega)) (zR_s (by omega))]; omega), if_pos (by rw [zI_lt (zR_s (by omega)) (zR_s (by omega))]; omega)]
    · simp only [if_neg e.1] at cb
      have ca := fun d => c_above d h (f := f) ⟨f0, by omega⟩
      simp only [cb, xbd_n]
      rw [if_pos trivial]
      simp only [ca, xbd_n]
      have up : spUp (spAb f) ≤ m := by
        have : ∀ g : Fin 7, 0 ≤ spAb (g.val : Int) → spUp (spAb (g.val : Int)) + 1 ≤ spUp (g.val : Int) := by decide
        have := this ⟨f.toNat, by omega⟩
        simp only [Int.toNat_of_nonneg f0] at this
        have := this e.2.1
        omega
      rw [ih (spAb f) (i + 1) e.2.1 e.2.2.1 up (by omega) (by omega) n (by omega), e.2.2.2.2]
theorem c_asked (d : Nat) {f k dp : Int} (hf : 0 ≤ f ∧ f < 7) (hk : 0 ≤ k ∧ k < 4) (hd : 0 ≤ dp ∧ dp < 40) (x : Int32) (h : xH) : cM (d + 2) 4 [xR 16 66, xI (zI f), xI (zI k), xI x, xI (zI dp)] h = xbd (cM (d + 1) 5 [xR 16 66, xI (zI (askAt askB f.toNat k.toNat)), xI x, xI (zI (dp + 1))] h) fun r h => some (r, h) := by
  rw [e_X0_asked, show xF = 999999 + 1 from rfl, l_X0_asked_0]
  simp only [zLit]
  have : spUp f ≤ 3 := by unfold spUp; split <;> (try omega); split <;> (try omega); split <;> omega
  exact c_asked_l d hk hd x h 3 f 0 hf.1 hf.2 this (by omega) (by omega) 999999 (by omega)
theorem m_ownL : ∀ f : Fin 7, ∀ k : Fin 4, (if askAt askF f.val k.val = (f.val : Int) then True else False) ↔ ((f.val = 0 ∨ f.val = 6) ∨ (f.val = 1 ∧ k.val = 1) ∨ (f.val = 2 ∧ (k.val = 0 ∨ k.val = 3)) ∨ (f.val = 3 ∧ k.val = 1) ∨ (f.val = 4 ∧ k.val = 2) ∨ (f.val = 5 ∧ k.val < 2)) := by decide +kernel
theorem m_own (d : Nat) {f k : Int} (hf : 0 ≤ f ∧ f < 7) (hk : 0 ≤ k ∧ k < 4) (h : xH) : cM (d + 1) 253 [xI (zI f), xI (zI k)] h = some (zB (askAt askF f.toNat k.toNat = f), h) := by
  rw [e_X12_hasOwn]
  rcases (show f = 0 ∨ f = 1 ∨ f = 2 ∨ f = 3 ∨ f = 4 ∨ f = 5 ∨ f = 6 by omega) with e | e | e | e | e | e | e <;> subst e <;> rcases (show k = 0 ∨ k = 1 ∨ k = 2 ∨ k = 3 by omega) with e | e | e | e <;> subst e
  all_goals simp only [zLit, show ∀ a b : Int, (zI a = zI b) = (zI a = zI b) from fun _ _ => rfl]
  all_goals first | exact zB_l1 (by decide) | exact zB_l0 (by decide)
theorem m_from_l (d : Nat) {k : Int} (hk : 0 ≤ k ∧ k < 4) (x : Int32) (h : xH) : ∀ (m : Nat) (f : Int), 0 ≤ f → f < 7 → spUp f ≤ m → ∀ n, m < n → r_X12_bodyFrom (d + 1) n 3 [some (xR 28 100), none, some (xI (zI k)), some (xI x), some (xI (zI f))] [] h = xbd (cM (d + 1) 256 [xR 28 100, xI (zI (askAt askF f.toNat k.toNat)), xI (zI k), xI x] h) fun r h => some (r, h) := by
  intro m
  induction m with
  | zero =>
    intro f f0 f1 hu n hn
    obtain ⟨n, rfl⟩ : ∃ j, n = j + 1 := ⟨n - 1, by omega⟩
    have e := ask_st ⟨f0, f1⟩ hk
    have hf06 : f = 0 ∨ f = 6 := by unfold spUp at hu; split at hu <;> (try omega); split at hu <;> (try omega); split at hu <;> omega
    have e : askAt askF f.toNat k.toNat = f := by
      rcases e with e | e
      · exact e.1
      · exfalso
        have := e.2.1
        rcases hf06 with q | q <;> subst q <;> revert this <;> decide
    have mo := fun d => m_own d ⟨f0, f1⟩ hk h
    rw [l_X12_bodyFrom_3]
    simp only [zLit, mo, xbd_n, zB_0]
    rw [if_neg (fun w => w e), e]
  | succ m ih =>
    intro f f0 f1 hu n hn
    obtain ⟨n, rfl⟩ : ∃ j, n = j + 1 := ⟨n - 1, by omega⟩
    have mo := fun d => m_own d ⟨f0, f1⟩ hk h
    rw [l_X12_bodyFrom_3]
    simp only [zLit, mo, xbd_n, zB_0]
    rcases ask_st ⟨f0, f1⟩ hk with e | e
    · rw [if_neg (fun w => w e.1), e.1]
    · rw [if_pos e.1]
      have ca := fun d => m_above d h (f := f) ⟨f0, by omega⟩
      simp only [ca, xbd_n]
      have up : spUp (spAb f) ≤ m := by
        have : ∀ g : Fin 7, 0 ≤ spAb (g.val : Int) → spUp (spAb (g.val : Int)) + 1 ≤ spUp (g.val : Int) := by decide
        have := this ⟨f.toNat, by omega⟩
        simp only [Int.toNat_of_nonneg f0] at this
        have := this e.2.1
        omega
      rw [ih (spAb f) e.2.1 e.2.2.1 up n (by omega), e.2.2.2.1]
theorem m_from (d : Nat) {f k : Int} (hf : 0 ≤ f ∧ f < 7) (hk : 0 ≤ k ∧ k < 4) (x : Int32) (h : xH) : cM (d + 2) 255 [xR 28 100, xI (zI f), xI (zI k), xI x] h = xbd (cM (d + 1) 256 [xR 28 100, xI (zI (askAt askF f.toNat k.toNat)), xI (zI k), xI x] h) fun r h => some (r, h) := by
  rw [e_X12_bodyFrom, show xF = 999999 + 1 from rfl, l_X12_bodyFrom_0]
  have : spUp f ≤ 3 := by unfold spUp; split <;> (try omega); split <;> (try omega); split <;> omega
  exact m_from_l d hk x h 3 f hf.1 hf.2 this 999999 (by omega)
