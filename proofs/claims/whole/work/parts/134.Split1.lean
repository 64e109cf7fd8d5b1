/-! PURE, part 64: the class parts the tape -/
def strI (o : Nat) : List Int := (xnd [] stL o).map Int32.toInt
theorem str_L : ∀ o : Fin 16, ∀ k : Fin 90, k.val < slX o.val → xch (sbX o.val k.val &&& (255 : Int32)) = sbX o.val k.val ∧ xch (sbX o.val k.val) = sbX o.val k.val ∧ sbX o.val k.val = zI (xnd 0 (strI o.val) k.val) := by decide +kernel
theorem str_n : ∀ o : Fin 16, slX o.val ≤ 90 ∧ slX o.val = (strI o.val).length := by decide +kernel
theorem s_len (d : Nat) {o : Nat} (ho : o < 16) (h : xH) : cM (d + 2) 262 [xR 5 o] h = some (zI ((strI o).length : Int), h) := by
  have e := str_n ⟨o, ho⟩
  rw [e_J0_length_8abf5]
  simp only [e_J0_coder_7d493, xbd_n]
  rw [show (slX o) = (strI o).length from e.2, zI_nI]
  congr 2
  generalize zI ((strI o).length : Int) = x
  have : (0 : Int32) &&& 31 = 0 := by decide
  rw [this]
  apply Int32.toBitVec_inj.mp
  rw [Int32.toBitVec_shiftRight]
  have e2 : ((0 : Int32).toBitVec.smod 32) = 0#32 := by decide
  rw [e2]
  simp
theorem s_char (d : Nat) {o : Nat} (ho : o < 16) {k : Nat} (hk : k < (strI o).length) (h : xH) : cM (d + 4) 263 [xR 5 o, xI (zI (k : Int))] h = some (zI (xnd 0 (strI o) k), h) := by
  have e := str_n ⟨o, ho⟩
  have e0 : slX o = (strI o).length := e.2
  have e1 : slX o ≤ 90 := e.1
  have c := str_L ⟨o, ho⟩ ⟨k, by omega⟩ (by show k < slX o; omega)
  simp only at c
  have kr : zR (k : Int) := zR_s (by omega)
  have h0r : zR 0 := zR_s (by omega)
  have n1 : ¬ (1 : Int32) = 0 := by decide
  rw [e_J0_charAt_5068e]
  simp only [e_J0_isLatin1_aae02, xbd_n, if_neg n1]
  rw [e_J1_charAt_3b067]
  simp only [e_J0_checkIndex_df160, e_J3_checkIndex_8e157, zLit, zI_nI, e0]
  rw [if_neg (by rw [zI_lt kr h0r]; omega), if_pos (by rw [zI_lt kr (zR_s (by omega))]; omega)]
  simp only [xbd_n, zI_nat kr, Int.toNat_natCast]
  rw [if_neg (by rw [zI_lt kr h0r]; omega)]
  have c1 : xch (sbX o k &&& zI 255) = sbX o k := c.1
  simp only [c1, c.2.1, if_true, xbd_n]
  rw [c.2.2]
theorem drp : ∀ (l : List Int) (k : Nat) (c : Int) (cs : List Int), l.drop k = c :: cs → k < l.length ∧ xnd 0 l k = c ∧ l.drop (k + 1) = cs := by
  intro l
  induction l with
  | nil => intro k c cs h; simp at h
  | cons a l ih =>
    intro k c cs h
    cases k with
    | zero =>
      simp only [List.drop_zero, List.cons.injEq] at h
      refine ⟨by simp, ?_, ?_⟩
      · rw [← h.1]; rfl
      · simp only [List.drop_succ_cons, List.drop_zero]; exact h.2
    | succ k =>
      simp only [List.drop_succ_cons] at h
      have := ih k c cs h
      refine ⟨by simp only [List.length_cons]; omega, this.2.1, ?_⟩
      simp only [List.drop_succ_cons]
      exact this.2.2
/-- the class's walk along all words -/
def wdf (T : Int → Int) (p e : Int) : List Int → Int → Int → Bool → Int
  | [], _, _, _ => 15
  | c :: cs, num, i, same => if c = 32 then (if same = true ∧ i = e then num else wdf T p e cs (num + 1) p true) else wdf T p e cs num (i + 1) (same && decide (i < e ∧ T i = c))
theorem wdf_w {T : Int → Int} {p e : Int} (rest : List Int) (num : Int) : ∀ (w : List Int) (i : Int) (same : Bool), (∀ c, c ∈ w → c ≠ 32) → wdf T p e (w ++ 32 :: rest) num i same = if (same && eqW T w i e) = true then num else wdf T p e rest (num + 1) p true := by
  intro w
  induction w with
  | nil =>
    intro i same _
    simp only [List.nil_append, wdf, eqW, if_true, Bool.and_eq_true, decide_eq_true_eq]
  | cons c w ih =>
    intro i same h
    simp only [List.cons_append, wdf]
    rw [if_neg (h c (List.mem_cons_self ..)), ih (i + 1) _ (fun x hx => h x (List.mem_cons_of_mem _ hx))]
    have hb : ((same && decide (i < e ∧ T i = c)) && eqW T w (i + 1) e) = (same && eqW T (c :: w) i e) := by rw [eqW, Bool.and_assoc]
    rw [hb]
theorem wdf_f {T : Int → Int} {p e : Int} : ∀ (ws : List (List Int)) (num : Int), (∀ w, w ∈ ws → ∀ c, c ∈ w → c ≠ 32) → wdf T p e (ws.foldr (fun w r => w ++ 32 :: r) []) num p true = fnd T ws num p e := by
  intro ws
  induction ws with
  | nil => intro num _; rfl
  | cons w ws ih =>
    intro num h
    simp only [List.foldr_cons]
    rw [wdf_w _ _ w p true (h w (List.mem_cons_self ..)), fnd, ih _ (fun x hx => h x (List.mem_cons_of_mem _ hx)), Bool.true_and]
theorem wds_s : strI 0 = WDS.foldr (fun w r => w ++ 32 :: r) [] := by decide +kernel
theorem wds_n : ∀ w, w ∈ WDS → ∀ c, c ∈ w → c ≠ 32 := by decide
def tpB (T : Int → Int) (n : Int) : Prop := (0 ≤ n ∧ n ≤ 240) ∧ ∀ j, 0 ≤ j → j < n → -128 ≤ T j ∧ T j ≤ 127
theorem c_at (d : Nat) {z : zH} (hz : zRR z) {T : Int → Int} {n : Int} (hn : 0 ≤ n ∧ n ≤ 240) (e1 : z 55 1 = n) (e56 : z 56 = T) {p : Int} (hp : 0 ≤ p ∧ p ≤ 1000) : cM (d + 1) 72 [xR 25 55, xI (zI p)] (hI z) = some (zI (if p < n then T p else -1), hI z) := by
  have pr : zR p := zR_s (by omega)
  have h0r : zR 0 := zR_s (by omega)
  rw [e_X9_at]
  simp only [zLit, zI_neg, hI_fs, e1]
  rw [if_neg (by rw [zI_lt pr h0r]; omega)]
  by_cases q : p < n
  · have b := bnd (a := p) (n := 240) hp.1 (by omega) (by omega)
    rw [if_pos (by rw [zI_lt pr (zR_s (by omega))]; exact q), if_pos (by rw [zI_lt pr (zR_s (by omega))]; omega), if_pos q]
    simp only [lenX_s, if_neg b]
    simp only [zI_nat pr, zld hp.1, e56]
  · rw [if_neg (by rw [zI_lt pr (zR_s (by omega))]; exact q), if_neg q]
theorem c_isLet (d : Nat) {c : Int} (hc : zR c) (h : xH) : cM (d + 1) 73 [xI (zI c)] h = some (zB (isL c), h) := by
  rw [e_X9_isLetter]
  simp (maxSteps := 3000000) (disch := (first | exact hz _ _ | exact hv _ | exact hL | assumption | (simp (disch := decide) only [zup_ne]; exact hL) | (simp only [zR]; omega) | omega)) only [zLit, zI_div, hI_fs, hI_us, zI_add, zI_sub, zI_mul, zI_neg, zI_lt, zI_eq, zI_ite, xbd_s, zI_nat, zld, zst, zbd, zB_0, zB_1, lenX_s, zup_at, xgd, cond_true, cond_false, and_self, and_true, true_and, false_and, and_false, or_self, or_false, false_or, if_true, if_false, ite_true, ite_false, reduceIte, reduceCtorEq, Nat.reduceEqDiff, Nat.reduceAdd, Nat.reduceMul, Int.reduceNeg, Int.reduceAdd, Int.reduceSub, Int.reduceMul, Int.reduceLT, Int.reduceLE, Int.reduceEq, Int.reduceDiv, Int.reduceMod, Int.reduceToNat, Int.toNat_zero, Int.toNat_one, Nat.reduceLeDiff, Nat.reduceLT, ite_not, not_true, not_false_eq_true]
  simp only [zB_z]
  grind
theorem c_isDig (d : Nat) {c : Int} (hc : zR c) (h : xH) : cM (d + 1) 74 [xI (zI c)] h = some (zB (isD c), h) := by
  rw [e_X9_isDigit]
  simp (maxSteps := 3000000) (disch := (first | exact hz _ _ | exact hv _ | exact hL | assumption | (simp (disch := decide) only [zup_ne]; exact hL) | (simp only [zR]; omega) | omega)) only [zLit, zI_div, hI_fs, hI_us, zI_add, zI_sub, zI_mul, zI_neg, zI_lt, zI_eq, zI_ite, xbd_s, zI_nat, zld, zst, zbd, zB_0, zB_1, lenX_s, zup_at, xgd, cond_true, cond_false, and_self, and_true, true_and, false_and, and_false, or_self, or_false, false_or, if_true, if_false, ite_true, ite_false, reduceIte, reduceCtorEq, Nat.reduceEqDiff, Nat.reduceAdd, Nat.reduceMul, Int.reduceNeg, Int.reduceAdd, Int.reduceSub, Int.reduceMul, Int.reduceLT, Int.reduceLE, Int.reduceEq, Int.reduceDiv, Int.reduceMod, Int.reduceToNat, Int.toNat_zero, Int.toNat_one, Nat.reduceLeDiff, Nat.reduceLT, ite_not, not_true, not_false_eq_true]
  simp only [zB_z]
  grind
theorem str0_len : (strI 0).length = 85 := by decide +kernel
theorem zB_same (same : Bool) : zI (if same = true then 1 else 0) = if same = true then zI 1 else zI 0 := by split <;> rfl
theorem c_word_l (d : Nat) {z : zH} (hz : zRR z) {T : Int → Int} {n : Int} (hT : tpB T n) (e1 : z 55 1 = n) (e56 : z 56 = T) {p e : Int} (hp : 0 ≤ p ∧ p ≤ e ∧ e ≤ n) : ∀ (cs : List Int) (k : Nat), (strI 0).drop k = cs → ∀ (num i : Int) (same : Bool), (0 ≤ num ∧ num ≤ k) → (p ≤ i ∧ i ≤ p + k) → k ≤ 85 → ∀ m, cs.length < m → r_X9_word (d + 4) m 11 [some (xR 25 55), some (xI (zI p)), some (xI (zI e)), some (xI (zI num)), some (xI (zI i)), some (xI (zI (if same = true then 1 else 0))), some (xI (zI (k : Int))), none] [] (hI z) = some (zI (wdf T p e cs num i same), hI z) := by
  have h0r : zR 0 := zR_s (by omega)
  have b32 : zR 32 := zR_s (by omega)
  have n10 : ¬ zI 1 = zI 0 := by decide
  obtain ⟨hn, hTb⟩ := hT
  have sl := fun d => s_len d (o := 0) (by omega) (hI z)
  rw [str0_len] at sl
  intro cs
  induction cs with
  | nil =>
    intro k hk num i same hnum hi k85 m hm
    obtain ⟨m, rfl⟩ := Nat.exists_eq_succ_of_ne_zero (show m ≠ 0 by omega)
    have kl : (strI 0).length ≤ k := List.drop_eq_nil_iff.mp hk
    rw [str0_len] at kl
    rw [l_X9_word_11]
    simp only [sl, xbd_n, zLit]
    rw [if_neg (by rw [zI_lt (zR_s (by omega)) (zR_s (by omega))]; omega)]
    rfl
  | cons c cs ih =>
    intro k hk num i same hnum hi k85 m hm
    obtain ⟨m, rfl⟩ := Nat.exists_eq_succ_of_ne_zero (show m ≠ 0 by omega)
    simp only [List.length_cons] at hm
    obtain ⟨k1, k2, k3⟩ := drp _ _ _ _ hk
    have sc := fun d => s_char d (o := 0) (by omega) k1 (hI z)
    rw [k2] at sc
    rw [str0_len] at k1
    have cr : zR c := by
      have : ∀ c, c ∈ strI 0 → 0 ≤ c ∧ c ≤ 127 := by decide +kernel
      have := this c (by rw [← List.take_append_drop k (strI 0), hk]; exact List.mem_append_right _ (List.mem_cons_self ..))
      exact zR_s (by omega)
    have ek : ((k : Int) + 1) = ((k + 1 : Nat) : Int) := by omega
    have ca := fun d => c_at d hz hn e1 e56 (p := i) ⟨by omega, by omega⟩
    rw [l_X9_word_11]
    simp only [sl, xbd_n, zLit]
    rw [if_pos (by rw [zI_lt (zR_s (by omega)) (zR_s (by omega))]; omega)]
    simp only [sc, xbd_n, zI_add, zB_same]
    unfold wdf
    by_cases q : c = 32
    · rw [if_pos (by rw [q]), if_pos q]
      cases same with
      | false =>
        simp only [Bool.false_eq_true, if_false, false_and, if_true]
        rw [ek]
        exact ih (k + 1) k3 (num + 1) p true (by omega) (by omega) (by omega) m (by omega)
      | true =>
        simp only [if_true, if_neg n10, true_and]
        by_cases w : i = e
        · rw [if_pos (by rw [w]), if_pos w]
        · rw [if_neg (by rw [zI_eq (zR_s (by omega)) (zR_s (by omega))]; exact w), if_neg w, ek]
          exact ih (k + 1) k3 (num + 1) p true (by omega) (by omega) (by omega) m (by omega)
    · rw [if_neg (by rw [zI_eq cr b32]; exact q), if_neg q]
      cases same with
      | false =>
        simp only [Bool.false_eq_true, if_false, if_true, Bool.false_and]
        rw [ek]
        exact ih (k + 1) k3 num (i + 1) false (by omega) (by omega) (by omega) m (by omega)
      | true =>
        simp only [if_true, if_neg n10, Bool.true_and]
        by_cases w : i < e
        · have tb := hTb i (by omega) (by omega)
          rw [if_pos (by rw [zI_lt (zR_s (by omega)) (zR_s (by omega))]; exact w)]
          simp only [ca, xbd_n]
          rw [if_pos (show i < n by omega)]
          by_cases x : T i = c
          · rw [if_pos (by rw [x]), ek, show decide (i < e ∧ T i = c) = true from decide_eq_true ⟨w, x⟩]
            exact ih (k + 1) k3 num (i + 1) true (by omega) (by omega) (by omega) m (by omega)
          · rw [if_neg (by rw [zI_eq (zR_s (by omega)) cr]; exact x), ek, show decide (i < e ∧ T i = c) = false from decide_eq_false (fun y => x y.2)]
            exact ih (k + 1) k3 num (i + 1) false (by omega) (by omega) (by omega) m (by omega)
        · rw [if_neg (by rw [zI_lt (zR_s (by omega)) (zR_s (by omega))]; exact w), ek, show decide (i < e ∧ T i = c) = false from decide_eq_false (fun y => w y.1)]
          exact ih (k + 1) k3 num (i + 1) false (by omega) (by omega) (by omega) m (by omega)
theorem c_word (d : Nat) {z : zH} (hz : zRR z) {T : Int → Int} {n : Int} (hT : tpB T n) (e1 : z 55 1 = n) (e56 : z 56 = T) {p e : Int} (hp : 0 ≤ p ∧ p ≤ e ∧ e ≤ n) : cM (d + 5) 76 [xR 25 55, xI (zI p), xI (zI e)] (hI z) = some (zI (wdI T p e), hI z) := by
  rw [e_X9_word, show xF = 999999 + 1 from rfl, l_X9_word_0]
  have w := c_word_l d hz hT e1 e56 hp (strI 0) 0 rfl 0 p true (by omega) (by omega) (by omega) 999999 (by rw [str0_len]; omega)
  have e : wdf T p e (strI 0) 0 p true = wdI T p e := by rw [wds_s, wdf_f WDS 0 wds_n]
  rw [e] at w
  simp only [zLit]
  exact w
