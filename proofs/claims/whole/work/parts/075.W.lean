/-! PURE, part 5: what a call comes to; frames; the craft -/
abbrev zRR (z : zH) : Prop := ∀ o k, zR (z o k)
def xw (o : xO) (Q : Int → zH → Prop) : Prop := ∃ r z, o = some (zI r, hI z) ∧ zR r ∧ zRR z ∧ Q r z
theorem xw_ret {r : Int} {z : zH} {Q : Int → zH → Prop} (h1 : zR r) (h2 : zRR z) (h3 : Q r z) : xw (some (zI r, hI z)) Q := ⟨r, z, rfl, h1, h2, h3⟩
theorem xw_t {c : Prop} [Decidable c] {A B : xO} {Q : Int → zH → Prop} (h : c) (k : xw A Q) : xw (if c then A else B) Q := by rw [if_pos h]; exact k
theorem xw_f {c : Prop} [Decidable c] {A B : xO} {Q : Int → zH → Prop} (h : ¬ c) (k : xw B Q) : xw (if c then A else B) Q := by rw [if_neg h]; exact k
theorem xw_c {c : Prop} [Decidable c] {A B : xO} {Q : Int → zH → Prop} (h : c → xw A Q) (k : ¬ c → xw B Q) : xw (if c then A else B) Q := by
  by_cases q : c
  · rw [if_pos q]; exact h q
  · rw [if_neg q]; exact k q
theorem xw_b {o : xO} {f : Int32 → xH → xO} {r : Int32 × xH} {Q : Int → zH → Prop} (h : o = some r) (k : xw (f r.1 r.2) Q) : xw (xbd o f) Q := by rw [h]; exact k
theorem xw_k {o : xO} {f : Int32 → xH → xO} {P Q : Int → zH → Prop} (h : xw o P) (k : ∀ r z, zR r → zRR z → P r z → xw (f (zI r) (hI z)) Q) : xw (xbd o f) Q := by
  obtain ⟨r, z, e, h1, h2, h3⟩ := h
  rw [e]
  exact k r z h1 h2 h3
theorem xw_m {o : xO} {P Q : Int → zH → Prop} (h : xw o P) (k : ∀ r z, zR r → zRR z → P r z → Q r z) : xw o Q := by
  obtain ⟨r, z, e, h1, h2, h3⟩ := h
  exact ⟨r, z, e, h1, h2, k r z h1 h2 h3⟩
theorem xw_e {o : xO} {r : Int} {z : zH} {Q : Int → zH → Prop} (e : o = some (zI r, hI z)) (h1 : zR r) (h2 : zRR z) (h3 : Q r z) : xw o Q := ⟨r, z, e, h1, h2, h3⟩
theorem zB_zR {P : Prop} [Decidable P] : zR (if P then 1 else 0) := by split <;> simp only [zR] <;> omega
theorem xw_eB {o : xO} {P : Prop} [Decidable P] {z : zH} {Q : Int → zH → Prop} (e : o = some (zB P, hI z)) (h2 : zRR z) (h3 : Q (if P then 1 else 0) z) : xw o Q := by
  rw [zB_z] at e
  exact ⟨_, z, e, zB_zR, h2, h3⟩
theorem zRR_up {z : zH} (hz : zRR z) (o : Nat) (k : Int) {v : Int} (hv : zR v) : zRR (zup z o k v) := by
  intro p q
  unfold zup
  split
  · exact hv
  · exact hz p q
/-- nothing changed but the objects S -/
def fr (S : List Nat) (z z' : zH) : Prop := ∀ o, S.elem o = false → z' o = z o
theorem fr_rf (S : List Nat) (z : zH) : fr S z z := fun _ _ => rfl
theorem fr_at {S : List Nat} {z z' : zH} (h : fr S z z') (o : Nat) (e : S.elem o = false) : z' o = z o := h o e
theorem elem_mono {S T : List Nat} {o : Nat} (h : S.all (fun x => T.elem x) = true) (e : T.elem o = false) : S.elem o = false := by
  cases q : S.elem o with
  | false => rfl
  | true =>
    have h1 := List.elem_iff.mp q
    have h2 := List.all_eq_true.mp h o h1
    rw [e] at h2
    cases h2
theorem fr_mono {S T : List Nat} {z z' : zH} (h : fr S z z') (k : S.all (fun x => T.elem x) = true) : fr T z z' := fun o e => h o (elem_mono k e)
theorem fr_tr {S T : List Nat} {z z' z'' : zH} (h : fr S z z') (k : fr T z' z'') (s : S.all (fun x => T.elem x) = true) : fr T z z'' := fun o e => (k o e).trans (h o (elem_mono s e))
theorem fr_up {S : List Nat} {z z' : zH} (h : fr S z z') {o : Nat} (k v : Int) (e : S.elem o = true) : fr S z (zup z' o k v) := by
  intro p q
  have hne : p ≠ o := by intro x; rw [x, e] at q; cases q
  rw [zup_ne z' k v hne]
  exact h p q
/-- nothing changed in object 100 but the fields F -/
def ff (F : List Int) (z z' : zH) : Prop := ∀ k, F.elem k = false → z' 100 k = z 100 k
theorem ff_rf (F : List Int) (z : zH) : ff F z z := fun _ _ => rfl
theorem ff_mono {S T : List Int} {z z' : zH} (h : ff S z z') (k : S.all (fun x => T.elem x) = true) : ff T z z' := by
  intro o e
  refine h o ?_
  cases q : S.elem o with
  | false => rfl
  | true =>
    have h1 := List.elem_iff.mp q
    have h2 := List.all_eq_true.mp k o h1
    rw [e] at h2
    cases h2
theorem ff_tr {S T : List Int} {z z' z'' : zH} (h : ff S z z') (k : ff T z' z'') (s : S.all (fun x => T.elem x) = true) : ff T z z'' := fun o e => (k o e).trans (ff_mono h s o e)
theorem ff_up {F : List Int} {z z' : zH} (h : ff F z z') {k : Int} (v : Int) (e : F.elem k = true) : ff F z (zup z' 100 k v) := by
  intro q hq
  unfold zup
  rw [if_neg (fun w => by rw [w.2, e] at hq; cases hq)]
  exact h q hq
theorem ff_ne {F : List Int} {z z' : zH} (h : ff F z z') {o : Nat} (k v : Int) (e : o ≠ 100) : ff F z (zup z' o k v) := by
  intro q hq
  rw [zup_ne z' k v (fun w => e w.symm)]
  exact h q hq
/-- a craft as four numbers (cell, heading, speed, height), and what an ACT makes of it -/
abbrev crft : Type := Int × Int × Int × Int
def spAct (v : Int → Int) (c : crft) (a : Int) : crft := (spGo v c.1 c.2.1 c.2.2.1 a, spTurn c.2.1 a, spPace c.2.2.1 a, spSink c.2.2.2 (spLoss v (spTurn c.2.1 a) (spPace c.2.2.1 a) a))
abbrev mayC (v : Int → Int) (c : crft) (a : Int) : Prop := spMay v c.1 c.2.1 c.2.2.1 c.2.2.2 a
def okC (v : Int → Int) (c : crft) : Prop := (0 ≤ c.1 ∧ c.1 < v 0 * v 1) ∧ (0 ≤ c.2.1 ∧ c.2.1 ≤ 3) ∧ (0 ≤ c.2.2.1 ∧ c.2.2.1 ≤ 2) ∧ (0 ≤ c.2.2.2 ∧ c.2.2.2 ≤ 99)
theorem spLoss_b {v : Int → Int} (hL : LandI v) {hd sp : Int} (a : Int) (h1 : 0 ≤ hd ∧ hd ≤ 3) (h2 : 0 ≤ sp ∧ sp ≤ 2) : 1 ≤ spLoss v hd sp a ∧ spLoss v hd sp a ≤ 40 := by
  have l1 := hL.2.2.2.2.1 sp h2.1 (by omega)
  have l2 := hL.2.2.2.2.2.2.2 hd h1.1 (by omega)
  have l3 : 0 ≤ v 18 ∧ v 18 ≤ 9 := hL.2.2.2.2.2.1
  have l4 : 0 ≤ v 19 ∧ v 19 ≤ 9 := hL.2.2.2.2.2.2.1
  unfold spLoss
  split <;> split <;> omega
theorem okC_act {v : Int → Int} (hL : LandI v) {c : crft} (h : okC v c) {a : Int} (hm : mayC v c a) : okC v (spAct v c a) := by
  obtain ⟨h1, h2, h3, h4⟩ := h
  obtain ⟨m1, m2, m3, m4⟩ := hm
  have g := spGo_b hL c.1 c.2.1 c.2.2.1 a
  have t := spTurn_b c.2.1 a
  have l := spLoss_b hL a t m3
  refine ⟨⟨m4, ?_⟩, t, m3, ?_⟩
  · show spGo v c.1 c.2.1 c.2.2.1 a < _
    omega
  · show 0 ≤ spSink c.2.2.2 _ ∧ spSink c.2.2.2 _ ≤ 99
    unfold spSink
    split <;> omega
abbrev crM (z : zH) : crft := (z 100 5, z 100 6, z 100 7, z 100 8)
abbrev crC (z : zH) (o : Nat) : crft := (z o 0, z o 1, z o 2, z o 3)
theorem zI_toZ (a : Int) : zR a → zI a = zI a := fun _ => rfl
theorem spSink_b {h l : Int} (h1 : 0 ≤ h ∧ h ≤ 99) (h2 : 0 ≤ l) : 0 ≤ spSink h l ∧ spSink h l ≤ 99 := by unfold spSink; split <;> omega
theorem m_actW (d : Nat) {z : zH} (hz : zRR z) (hL : LandI (z 101)) (hC : okC (z 101) (crM z)) {a : Int} (hm : mayC (z 101) (crM z) a) : xw (cM (d + 3) 171 [xR 28 100, xI (zI a)] (hI z)) (fun _ z' => crM z' = spAct (z 101) (crM z) a ∧ fr [100] z z' ∧ ff [5, 6, 7, 8] z z') := by
  have har := area hL.1 hL.2.1
  have hk := okC_act hL hC hm
  obtain ⟨h1, h2, h3, h4⟩ := hC
  obtain ⟨k1, k2, k3, k4⟩ := hk
  refine xw_e (m_act d hz hL h1 h2 h3 h4 hm.1 hm.2.2.1) (by simp only [zR]; omega) ?_ ⟨?_, ?_, ?_⟩
  · refine zRR_up (zRR_up (zRR_up (zRR_up hz _ _ ?_) _ _ ?_) _ _ ?_) _ _ ?_
    · show zR (spAct (z 101) (crM z) a).2.1
      simp only [zR]; omega
    · show zR (spAct (z 101) (crM z) a).2.2.1
      simp only [zR]; omega
    · show zR (spAct (z 101) (crM z) a).1
      simp only [zR]; omega
    · show zR (spAct (z 101) (crM z) a).2.2.2
      simp only [zR]; omega
  · rfl
  · exact fr_up (fr_up (fr_up (fr_up (fr_rf _ _) _ _ rfl) _ _ rfl) _ _ rfl) _ _ rfl
  · exact ff_up (ff_up (ff_up (ff_up (ff_rf _ _) _ rfl) _ rfl) _ rfl) _ rfl
theorem m_beginW (d : Nat) {z : zH} (hz : zRR z) : xw (cM (d + 1) 165 [xR 28 100] (hI z)) (fun _ z' => crM z' = (z 101 2, z 101 3, z 101 4, z 101 5) ∧ fr [100] z z' ∧ ff [5, 6, 7, 8] z z') := by
  refine xw_e (r := 0) (z := zup (zup (zup (zup z 100 5 (z 101 2)) 100 6 (z 101 3)) 100 7 (z 101 4)) 100 8 (z 101 5)) ?_ (by simp only [zR]; omega) ?_ ⟨?_, ?_, ?_⟩
  · rw [e_X12_begin]
    simp (maxSteps := 3000000) (disch := (first | exact hz _ _ | exact hv _ | exact hL | assumption | (simp (disch := decide) only [zup_ne]; exact hL) | (simp only [zR]; omega) | omega)) only [zLit, zI_div, hI_fs, hI_us, zI_add, zI_sub, zI_mul, zI_neg, zI_lt, zI_eq, zI_ite, xbd_s, zI_nat, zld, zst, zbd, zB_0, zB_1, lenX_s, zup_at, xgd, cond_true, cond_false, and_self, and_true, true_and, false_and, and_false, or_self, or_false, false_or, if_true, if_false, ite_true, ite_false, reduceIte, reduceCtorEq, Nat.reduceEqDiff, Nat.reduceAdd, Nat.reduceMul, Int.reduceNeg, Int.reduceAdd, Int.reduceSub, Int.reduceMul, Int.reduceLT, Int.reduceLE, Int.reduceEq, Int.reduceDiv, Int.reduceMod, Int.reduceToNat, Int.toNat_zero, Int.toNat_one, Nat.reduceLeDiff, Nat.reduceLT, ite_not, not_true, not_false_eq_true]
  · exact zRR_up (zRR_up (zRR_up (zRR_up hz _ _ (hz _ _)) _ _ (hz _ _)) _ _ (hz _ _)) _ _ (hz _ _)
  · rfl
  · exact fr_up (fr_up (fr_up (fr_up (fr_rf _ _) _ _ rfl) _ _ rfl) _ _ rfl) _ _ rfl
  · exact ff_up (ff_up (ff_up (ff_up (ff_rf _ _) _ rfl) _ rfl) _ rfl) _ rfl
theorem LandR_fr {S : List Nat} {z z' : zH} {v : Int → Int} (h : LandR z v) (f : fr S z z') (e2 : S.elem 2 = false) (e3 : S.elem 3 = false) (e4 : S.elem 4 = false) (e5 : S.elem 5 = false) : LandR z' v := by
  unfold LandR
  rw [f 2 e2, f 3 e3, f 4 e4, f 5 e5]
  exact h
theorem LandR_up {z : zH} {v : Int → Int} (h : LandR z v) {o : Nat} (k u : Int) (e : o < 2 ∨ 5 < o) : LandR (zup z o k u) v := by
  unfold LandR
  rw [zup_ne z k u (show (2 : Nat) ≠ o by omega), zup_ne z k u (show (3 : Nat) ≠ o by omega), zup_ne z k u (show (4 : Nat) ≠ o by omega), zup_ne z k u (show (5 : Nat) ≠ o by omega)]
  exact h
theorem zI_ilt {a b : Int} (ha : zR a) (hb : zR b) (c e : Int) : (if zI a < zI b then zI c else zI e) = zI (if a < b then c else e) := by
  by_cases h : a < b
  · rw [if_pos h, if_pos ((zI_lt ha hb).mpr h)]
  · rw [if_neg h, if_neg (fun w => h ((zI_lt ha hb).mp w))]
abbrev cAct (z : zH) (v : Int → Int) (o : Nat) (a : Int) : zH := zup (zup (zup (zup (zup z o 1 (spTurn (z o 1) a)) o 2 (spPace (z o 2) a)) o 0 (spGo v (z o 0) (z o 1) (z o 2) a)) o 3 (spSink (z o 3) (spLoss v (spTurn (z o 1) a) (spPace (z o 2) a) a))) o 4 (z o 4 + 1)
set_option maxRecDepth 20000 in
theorem c_move (d : Nat) {z : zH} (hz : zRR z) {v : Int → Int} (hR : LandR z v) (hL : LandI v) {o : Nat} (ho : o < 2 ∨ 5 < o) (h1 : 0 ≤ z o 0 ∧ z o 0 < v 0 * v 1) (h2 : 0 ≤ z o 1 ∧ z o 1 ≤ 3) (h3 : 0 ≤ z o 2 ∧ z o 2 ≤ 2) (h4 : 0 ≤ z o 3 ∧ z o 3 ≤ 99) {a : Int} (m1 : 0 ≤ a ∧ a ≤ 8) (m3 : 0 ≤ spPace (z o 2) a ∧ spPace (z o 2) a ≤ 2) : cM (d + 3) 44 [xR 21 2, xR 18 o, xI (zI a)] (hI z) = some (zI 0, hI (cAct z v o a)) := by
  have hl := spLoss_b hL a (spTurn_b (z o 1) a) m3
  have s1 := spTurn_b (z o 1) a
  have R1 := LandR_up hR (o := o) 1 (spTurn (z o 1) a) ho
  have R2 := LandR_up R1 (o := o) 2 (spPace (z o 2) a) ho
  have R3 := LandR_up R2 (o := o) 0 (spAhead (v 0) (v 1) (z o 0) (spTurn (z o 1) a) (spFar (spPace (z o 2) a))) ho
  rw [e_X5_move]
  repeat' (first | (with_reducible apply hs_f; (case h => (first | (simp (disch := (first | exact hz _ _ | exact hv _ | exact hL | assumption | (simp (disch := decide) only [zup_ne]; exact hL) | (simp only [zR]; omega) | omega)) only [zLit, zI_div, hI_fs, hI_us, zI_add, zI_sub, zI_mul, zI_neg, zI_lt, zI_eq, zI_ite, xbd_s, zI_nat, zld, zst, zbd, zB_0, zB_1, lenX_s, zup_at, xgd, cond_true, cond_false, and_self, and_true, true_and, false_and, and_false, or_self, or_false, false_or, if_true, if_false, ite_true, ite_false, reduceIte, reduceCtorEq, Nat.reduceEqDiff, Nat.reduceAdd, Nat.reduceMul, Int.reduceNeg, Int.reduceAdd, Int.reduceSub, Int.reduceMul, Int.reduceLT, Int.reduceLE, Int.reduceEq, Int.reduceDiv, Int.reduceMod, Int.reduceToNat, Int.toNat_zero, Int.toNat_one, Nat.reduceLeDiff, Nat.reduceLT, ite_not, not_true, not_false_eq_true] <;> omega) | omega))) | (with_reducible apply hs_t; (case h => (first | (simp (disch := (first | exact hz _ _ | exact hv _ | exact hL | assumption | (simp (disch := decide) only [zup_ne]; exact hL) | (simp only [zR]; omega) | omega)) only [zLit, zI_div, hI_fs, hI_us, zI_add, zI_sub, zI_mul, zI_neg, zI_lt, zI_eq, zI_ite, xbd_s, zI_nat, zld, zst, zbd, zB_0, zB_1, lenX_s, zup_at, xgd, cond_true, cond_false, and_self, and_true, true_and, false_and, and_false, or_self, or_false, false_or, if_true, if_false, ite_true, ite_false, reduceIte, reduceCtorEq, Nat.reduceEqDiff, Nat.reduceAdd, Nat.reduceMul, Int.reduceNeg, Int.reduceAdd, Int.reduceSub, Int.reduceMul, Int.reduceLT, Int.reduceLE, Int.reduceEq, Int.reduceDiv, Int.reduceMod, Int.reduceToNat, Int.toNat_zero, Int.toNat_one, Nat.reduceLeDiff, Nat.reduceLT, ite_not, not_true, not_false_eq_true] <;> omega) | omega))) | (with_reducible apply hs_b; (case h => (simp (disch := (first | exact hz _ _ | exact hv _ | exact hL | assumption | (simp (disch := decide) only [zup_ne]; exact hL) | (simp only [zR]; omega) | omega)) only [zLit, zI_div, hI_fs, hI_us, zI_add, zI_sub, zI_mul, zI_neg, zI_lt, zI_eq, zI_ite, xbd_s, zI_nat, zld, zst, zbd, zB_0, zB_1, lenX_s, zup_at, xgd, cond_true, cond_false, and_self, and_true, true_and, false_and, and_false, or_self, or_false, false_or, if_true, if_false, ite_true, ite_false, reduceIte, reduceCtorEq, Nat.reduceEqDiff, Nat.reduceAdd, Nat.reduceMul, Int.reduceNeg, Int.reduceAdd, Int.reduceSub, Int.reduceMul, Int.reduceLT, Int.reduceLE, Int.reduceEq, Int.reduceDiv, Int.reduceMod, Int.reduceToNat, Int.toNat_zero, Int.toNat_one, Nat.reduceLeDiff, Nat.reduceLT, ite_not, not_true, not_false_eq_true, c_turn, c_pace, c_ahead _ R2 hL, c_loss _ R3 hL]; rfl)); try dsimp only) | (with_reducible apply hs_c <;> intro q9 <;> (try simp (disch := (first | exact hz _ _ | exact hv _ | exact hL | assumption | (simp (disch := decide) only [zup_ne]; exact hL) | (simp only [zR]; omega) | omega)) only [zLit, zI_div, hI_fs, hI_us, zI_add, zI_sub, zI_mul, zI_neg, zI_lt, zI_eq, zI_ite, xbd_s, zI_nat, zld, zst, zbd, zB_0, zB_1, lenX_s, zup_at, xgd, cond_true, cond_false, and_self, and_true, true_and, false_and, and_false, or_self, or_false, false_or, if_true, if_false, ite_true, ite_false, reduceIte, reduceCtorEq, Nat.reduceEqDiff, Nat.reduceAdd, Nat.reduceMul, Int.reduceNeg, Int.reduceAdd, Int.reduceSub, Int.reduceMul, Int.reduceLT, Int.reduceLE, Int.reduceEq, Int.reduceDiv, Int.reduceMod, Int.reduceToNat, Int.toNat_zero, Int.toNat_one, Nat.reduceLeDiff, Nat.reduceLT, ite_not, not_true, not_false_eq_true] at q9)))
  have hh : zR (z o 3 - spLoss v (spTurn (z o 1) a) (spPace (z o 2) a) a) := by simp only [zR]; omega
  have h0 : zR (0 : Int) := by simp only [zR]; omega
  simp only [zI_ilt h0 hh, hI_us, zLit, hI_fs, zup_at, and_self, and_true, true_and, and_false, if_true, if_false, reduceIte, Int.reduceEq, zI_add, zI_sub, spSink, cAct, spGo]
theorem c_moveW (d : Nat) {z : zH} (hz : zRR z) {v : Int → Int} (hR : LandR z v) (hL : LandI v) {o : Nat} (ho : o < 2 ∨ 5 < o) (hC : okC v (crC z o)) (ht : 0 ≤ z o 4 ∧ z o 4 ≤ 1000) {a : Int} (hm : mayC v (crC z o) a) : xw (cM (d + 3) 44 [xR 21 2, xR 18 o, xI (zI a)] (hI z)) (fun _ z' => crC z' o = spAct v (crC z o) a ∧ z' o 4 = z o 4 + 1 ∧ fr [o] z z' ∧ ∀ k, 4 < k → z' o k = z o k) := by
  have har := area hL.1 hL.2.1
  have hk := okC_act hL hC hm
  obtain ⟨h1, h2, h3, h4⟩ := hC
  obtain ⟨k1, k2, k3, k4⟩ := hk
  refine xw_e (c_move d hz hR hL ho h1 h2 h3 h4 hm.1 hm.2.2.1) (by simp only [zR]; omega) ?_ ⟨?_, ?_, ?_, ?_⟩
  · refine zRR_up (zRR_up (zRR_up (zRR_up (zRR_up hz _ _ ?_) _ _ ?_) _ _ ?_) _ _ ?_) _ _ (by simp only [zR]; omega)
    · show zR (spAct v (crC z o) a).2.1
      simp only [zR]; omega
    · show zR (spAct v (crC z o) a).2.2.1
      simp only [zR]; omega
    · show zR (spAct v (crC z o) a).1
      simp only [zR]; omega
    · show zR (spAct v (crC z o) a).2.2.2
      simp only [zR]; omega
  · simp only [crC, spAct, zup_at, and_self, and_true, true_and, and_false, if_true, if_false, reduceIte, Int.reduceEq]
  · simp only [zup_at, and_self, and_true, true_and, and_false, if_true, if_false, reduceIte, Int.reduceEq]
  · have e : [o].elem o = true := by simp
    exact fr_up (fr_up (fr_up (fr_up (fr_up (fr_rf _ _) _ _ e) _ _ e) _ _ e) _ _ e) _ _ e
  · intro k hk
    simp only [zup_at]
    rw [if_neg (by omega), if_neg (by omega), if_neg (by omega), if_neg (by omega), if_neg (by omega)]
