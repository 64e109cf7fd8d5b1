/-! PURE, part 22: an act in earnest; craftOf, fly, flies -/
theorem m_mayC (d : Nat) {z : zH} (hz : zRR z) (hL : LandI (z 101)) (hC : okC (z 101) (crM z)) {a : Int} (ha : 0 ≤ a ∧ a ≤ 8) : cM (d + 3) 170 [xR 28 100, xI (zI a)] (hI z) = some (zB (mayC (z 101) (crM z) a), hI z) := m_mayBe d hz hL hC.1 hC.2.1 hC.2.2.1 ha
theorem c_mayC (d : Nat) {z : zH} (hz : zRR z) {v : Int → Int} (hR : LandR z v) (hL : LandI v) {o : Nat} (hC : okC v (crC z o)) {a : Int} (ha : zR a) : cM (d + 3) 43 [xR 21 2, xR 18 o, xI (zI a)] (hI z) = some (zB (mayC v (crC z o) a), hI z) := c_mayBe d hz hR hL hC.1 hC.2.1 hC.2.2.1 ha
def spFlown (v : Int → Int) (c : crft) (t a : Int) : Int × crft × Int := if t < 200 ∧ mayC v c a then (1, spAct v c a, t + 1) else (0, c, t)
theorem xw_eq {o : xO} {z : zH} {r : Int} {Q : Int → zH → Prop} (e : o = some (zI r, hI z)) (h1 : zR r) (h2 : zRR z) (h3 : Q r z) : xw o Q := ⟨r, z, e, h1, h2, h3⟩
theorem zR_s {a : Int} (h : -1000000 ≤ a ∧ a ≤ 1000000) : zR a := by simp only [zR]; omega
theorem c_flownNow (d : Nat) {z : zH} (hz : zRR z) {v : Int → Int} (hR : LandR z v) (hL : LandI v) (hC : okC v (crC z 6)) (ht : 0 ≤ z 6 4 ∧ z 6 4 ≤ 200) {a : Int} (ha : zR a) : xw (cM (d + 4) 104 [xR 27 0, xI (zI a)] (hI z)) (fun r z' => (r, crC z' 6, z' 6 4) = spFlown v (crC z 6) (z 6 4) a ∧ fr [6] z z') := by
  have h0 : zR 0 := zR_s (by omega)
  have h1 : zR 1 := zR_s (by omega)
  have h2 : zR 200 := zR_s (by omega)
  have cm := c_mayC d hz hR hL hC ha
  rw [e_X11_isFlownNow]
  by_cases q1 : z 6 4 < 200
  · by_cases q2 : mayC v (crC z 6) a
    · have ee : spFlown v (crC z 6) (z 6 4) a = (1, spAct v (crC z 6) a, z 6 4 + 1) := if_pos ⟨q1, q2⟩
      simp only [zLit, hI_fs, zI_lt (hz 6 4) h2, if_pos q1, cm, xbd_s, zB_0, if_neg (fun w : ¬ mayC v (crC z 6) a => w q2)]
      refine xw_k (c_moveW d hz hR hL (o := 6) (Or.inr (by omega)) hC (by omega) q2) ?_
      intro r z' hr hz' ⟨e1, e2, e3, _⟩
      exact xw_ret h1 hz' ⟨by rw [e1, e2, ee], e3⟩
    · have ee : spFlown v (crC z 6) (z 6 4) a = (0, crC z 6, z 6 4) := if_neg (fun w => q2 w.2)
      simp only [zLit, hI_fs, zI_lt (hz 6 4) h2, if_pos q1, cm, xbd_s, zB_0, if_pos q2]
      exact xw_ret h0 hz ⟨by rw [ee], fr_rf _ _⟩
  · have ee : spFlown v (crC z 6) (z 6 4) a = (0, crC z 6, z 6 4) := if_neg (fun w => q1 w.1)
    simp only [zLit, hI_fs, zI_lt (hz 6 4) h2, if_neg q1]
    exact xw_ret h0 hz ⟨by rw [ee], fr_rf _ _⟩
abbrev crV (v : Int → Int) : crft := (v 2, v 3, v 4, v 5)
theorem m_flown (d : Nat) {z : zH} (hz : zRR z) (hL : LandI (z 101)) (hC : okC (z 101) (crV (z 101))) (ht : 0 ≤ z 101 6 ∧ z 101 6 ≤ 200) {a : Int} (ha : 0 ≤ a ∧ a ≤ 8) : xw (cM (d + 4) 175 [xR 28 100, xI (zI a)] (hI z)) (fun r z' => (r, crV (z' 101), z' 101 6) = spFlown (z 101) (crV (z 101)) (z 101 6) a ∧ fr [100, 101] z z' ∧ ff [5, 6, 7, 8] z z' ∧ ∀ k, ¬ (2 ≤ k ∧ k ≤ 6) → z' 101 k = z 101 k) := by
  have h0 : zR 0 := zR_s (by omega)
  have h1 : zR 1 := zR_s (by omega)
  have h2 : zR 200 := zR_s (by omega)
  have h6 : zR 6 := zR_s (by omega)
  rw [e_X12_isFlown]
  refine xw_k (m_beginW _ hz) ?_
  intro r1 z1 hr1 hz1 ⟨c1, f1, g1⟩
  have e1 : z1 101 = z 101 := f1 101 rfl
  have hL1 : LandI (z1 101) := by rw [e1]; exact hL
  have hC1 : okC (z1 101) (crM z1) := by rw [e1, c1]; exact hC
  have cm := m_mayC d hz1 hL1 hC1 ha
  rw [e1, c1] at cm
  have n2 : ∀ b : Int, 0 ≤ b → b < 572 → (¬ (zI b < zI 0 ∨ 572 ≤ (zI b).toNatClampNeg)) := by
    intro b b0 b1
    have hb : zR b := zR_s (by omega)
    rw [zI_lt hb h0, zI_nat hb]
    omega
  have r6 : hI z1 101 (zI 6).toNatClampNeg = zI (z 101 6) := by rw [zI_nat h6, zld (by omega), e1]
  simp only [zLit, lenX_s]
  rw [if_neg (n2 6 (by omega) (by omega)), r6]
  by_cases q1 : z 101 6 < 200
  · rw [if_neg (fun w => by rw [zI_eq (hz _ _) h2] at w; omega), cm]
    by_cases q2 : mayC (z 101) (crV (z 101)) a
    · have ee : spFlown (z 101) (crV (z 101)) (z 101 6) a = (1, spAct (z 101) (crV (z 101)) a, z 101 6 + 1) := if_pos ⟨q1, q2⟩
      simp only [xbd_s, zB_0, if_neg (fun w : ¬ mayC (z 101) (crV (z 101)) a => w q2)]
      refine xw_k (m_actW d hz1 hL1 hC1 (by rw [e1, c1]; exact q2)) ?_
      intro r3 z3 hr3 hz3 ⟨c3, f3, g3⟩
      have e3 : z3 101 = z 101 := (f3 101 rfl).trans e1
      have hz := hz3
      rw [e1, c1] at c3
      refine xw_eq (r := 1) (z := zup (zup (zup (zup (zup z3 101 2 (z3 100 5)) 101 3 (z3 100 6)) 101 4 (z3 100 7)) 101 5 (z3 100 8)) 101 6 (z 101 6 + 1)) ?_ h1 ?_ ⟨?_, ?_, ?_, ?_⟩
      · simp (maxSteps := 3000000) (disch := (first | exact hz _ _ | exact hv _ | exact hL | assumption | (simp (disch := decide) only [zup_ne]; exact hL) | (simp only [zR]; omega) | omega)) only [zLit, zI_div, hI_fs, hI_us, zI_add, zI_sub, zI_mul, zI_neg, zI_lt, zI_eq, zI_ite, xbd_s, zI_nat, zld, zst, zbd, zB_0, zB_1, lenX_s, zup_at, xgd, cond_true, cond_false, and_self, and_true, true_and, false_and, and_false, or_self, or_false, false_or, if_true, if_false, ite_true, ite_false, reduceIte, reduceCtorEq, Nat.reduceEqDiff, Nat.reduceAdd, Nat.reduceMul, Int.reduceNeg, Int.reduceAdd, Int.reduceSub, Int.reduceMul, Int.reduceLT, Int.reduceLE, Int.reduceEq, Int.reduceDiv, Int.reduceMod, Int.reduceToNat, Int.toNat_zero, Int.toNat_one, Nat.reduceLeDiff, Nat.reduceLT, ite_not, not_true, not_false_eq_true, e3]
      · exact zRR_up (zRR_up (zRR_up (zRR_up (zRR_up hz3 _ _ (hz3 _ _)) _ _ (hz3 _ _)) _ _ (hz3 _ _)) _ _ (hz3 _ _)) _ _ (zR_s (by omega))
      · simp only [crV, zup_at, and_self, and_true, true_and, and_false, if_true, if_false, reduceIte, Int.reduceEq]
        rw [ee, ← c3]
      · exact fr_up (fr_up (fr_up (fr_up (fr_up (fr_tr f1 (fr_mono f3 (T := [100, 101]) rfl) rfl) _ _ rfl) _ _ rfl) _ _ rfl) _ _ rfl) _ _ rfl
      · exact ff_ne (ff_ne (ff_ne (ff_ne (ff_ne (ff_tr g1 g3 rfl) _ _ (by decide)) _ _ (by decide)) _ _ (by decide)) _ _ (by decide)) _ _ (by decide)
      · intro k hk
        simp only [zup_at, e3]
        rw [if_neg (by omega), if_neg (by omega), if_neg (by omega), if_neg (by omega), if_neg (by omega)]
    · have ee : spFlown (z 101) (crV (z 101)) (z 101 6) a = (0, crV (z 101), z 101 6) := if_neg (fun w => q2 w.2)
      simp only [xbd_s, zB_0, if_pos q2]
      exact xw_ret h0 hz1 ⟨by rw [e1, ee], fr_mono f1 rfl, g1, fun k _ => by rw [e1]⟩
  · have ee : spFlown (z 101) (crV (z 101)) (z 101 6) a = (0, crV (z 101), z 101 6) := if_neg (fun w => q1 w.1)
    rw [if_pos (by rw [zI_eq (hz _ _) h2]; omega)]
    exact xw_ret h0 hz1 ⟨by rw [e1, ee], fr_mono f1 rfl, g1, fun k _ => by rw [e1]⟩
theorem spFlown_ok {v : Int → Int} (hL : LandI v) {c : crft} {t a : Int} (hC : okC v c) (ht : 0 ≤ t ∧ t ≤ 200) : okC v (spFlown v c t a).2.1 ∧ 0 ≤ (spFlown v c t a).2.2 ∧ (spFlown v c t a).2.2 ≤ 200 ∧ ((spFlown v c t a).1 = 0 ∨ (spFlown v c t a).1 = 1) := by
  unfold spFlown
  split
  · rename_i q
    exact ⟨okC_act hL hC q.2, by simp only; omega, by simp only; omega, Or.inr rfl⟩
  · exact ⟨hC, ht.1, ht.2, Or.inl rfl⟩
/-- scratch of the model alone -/
def scrM : List Nat := [100, 104, 105, 106, 107, 108, 109, 112, 113, 114, 116]
theorem Inv_scrM {F : List Int} {z z' : zH} (h : Inv z) (y : zRR z') (f : fr scrM z z') (g : ff F z z') (e2 : F.elem 2 = false) (e4 : F.elem 4 = false) (e31 : F.elem 31 = false) (e40 : F.elem 40 = false) : Inv z' :=
  Inv_scr h y (fr_mono f rfl) (g 2 e2) (g 4 e4) (g 31 e31) (g 40 e40) (by rw [f 55 rfl]) (by rw [f 66 rfl]) (by rw [f 47 rfl]) (by rw [f 47 rfl])
theorem Inv_craft {z z1 z2 : zH} (h : Inv z) (y2 : zRR z2) (f1 : fr [6] z z1) (f2 : fr [100, 101] z1 z2) (g : ff [5, 6, 7, 8] z1 z2) (hk : ∀ k, ¬ (2 ≤ k ∧ k ≤ 6) → z2 101 k = z1 101 k) (hc : crC z1 6 = crV (z2 101)) (ht : z1 6 4 = z2 101 6) (ho : okC (z 101) (crV (z2 101))) (hb : 0 ≤ z2 101 6 ∧ z2 101 6 ≤ 200) : Inv z2 := by
  obtain ⟨hz, hW, hK, hT, hO, hS, hF, hC⟩ := h
  have e1 : z1 101 = z 101 := f1 101 rfl
  have lo : ∀ o, o ≠ 6 → o ≠ 100 → o ≠ 101 → z2 o = z o := by
    intro o o1 o2 o3
    rw [f2 o (by
      cases q : [100, 101].elem o with
      | false => rfl
      | true => have q := List.elem_iff.mp q; simp only [List.mem_cons, List.not_mem_nil, or_false] at q; omega), f1 o (by
      cases q : [6].elem o with
      | false => rfl
      | true => have q := List.elem_iff.mp q; simp only [List.mem_cons, List.not_mem_nil, or_false] at q; omega)]
  have g100 : ∀ k, [5, 6, 7, 8].elem k = false → z2 100 k = z 100 k := fun k k0 => by rw [g k k0, f1 100 rfl]
  have ev : ∀ k, ¬ (2 ≤ k ∧ k < 7) → 0 ≤ k ∧ k < 572 → z2 101 k = z 101 k := fun k k0 _ => by rw [hk k (by omega), e1]
  have d6 : z2 6 = z1 6 := f2 6 rfl
  have fF : fr [6, 101] z (fun o => if o = 100 then z 100 else z2 o) := by
    intro o ho
    by_cases q : o = 100
    · simp only [q, if_true]
    · simp only [q, if_false]
      refine lo o ?_ q ?_ <;> intro e <;> subst e <;> cases ho
  have hx : PCraft 6 z2 (z2 101) := by
    injection hc with w0 hc
    injection hc with w1 hc
    injection hc with w2 w3
    refine ⟨by rw [d6]; exact w0, by rw [d6]; exact w1, by rw [d6]; exact w2, by rw [d6]; exact w3, by rw [d6]; exact ht, ?_, hb⟩
    obtain ⟨o1, o2⟩ := ho
    refine ⟨?_, o2⟩
    rw [hk 0 (by omega), hk 1 (by omega), e1]
    exact o1
  obtain ⟨h1, h2, h3, h4, h5, h6, h7, h8, h9⟩ := hW
  have hw : PWorld 1 z2 (z2 101) := ⟨PLand_t h1 (lo 2 (by decide) (by decide) (by decide)) (lo 3 (by decide) (by decide) (by decide)) (lo 4 (by decide) (by decide) (by decide)) (lo 5 (by decide) (by decide) (by decide)) (fun k hk => ev k (by omega) (by omega)), hx, PEnds_t h3 (lo 7 (by decide) (by decide) (by decide)) (lo 8 (by decide) (by decide) (by decide)) (fun k hk => ev k (by omega) (by omega)), PPlans_t h4 (lo 9 (by decide) (by decide) (by decide)) (lo 10 (by decide) (by decide) (by decide)) (fun k hk => ev k (by omega) (by omega)), PScenes_t h5 (lo 11 (by decide) (by decide) (by decide)) (lo 12 (by decide) (by decide) (by decide)) (fun k hk => ev k (by omega) (by omega)), PHands_t h6 (lo 13 (by decide) (by decide) (by decide)) (lo 14 (by decide) (by decide) (by decide)) (lo 15 (by decide) (by decide) (by decide)) (lo 16 (by decide) (by decide) (by decide)) (fun k hk => ev k (by omega) (by omega)), PSteps_t h7 (lo 17 (by decide) (by decide) (by decide)) (lo 18 (by decide) (by decide) (by decide)) (fun k hk => ev k (by omega) (by omega)), PJobs_t h8 (lo 19 (by decide) (by decide) (by decide)) (lo 20 (by decide) (by decide) (by decide)) (fun k hk => ev k (by omega) (by omega)), PTrials_t h9 (lo 21 (by decide) (by decide) (by decide)) (lo 22 (by decide) (by decide) (by decide)) (fun k hk => ev k (by omega) (by omega))⟩
  exact ⟨y2, hw, PKept_t hK (by rw [lo 0 (by decide) (by decide) (by decide)]) (g100 2 rfl) (fun i i0 i1 => lo _ (by omega) (by omega) (by omega)) (lo 102 (by decide) (by decide) (by decide)), PTape_t hT (by rw [lo 55 (by decide) (by decide) (by decide)]) (g100 4 rfl) (lo 56 (by decide) (by decide) (by decide)) (lo 103 (by decide) (by decide) (by decide)), PRows_t hO (lo 68 (by decide) (by decide) (by decide)) (by rw [lo 47 (by decide) (by decide) (by decide)]) (by rw [lo 47 (by decide) (by decide) (by decide)]) (g100 31 rfl) (lo 69 (by decide) (by decide) (by decide)) (lo 115 (by decide) (by decide) (by decide)), PSheets_t hS (fun i hi => lo _ (by omega) (by omega) (by omega)) (lo 117 (by decide) (by decide) (by decide)) (lo 118 (by decide) (by decide) (by decide)) (lo 119 (by decide) (by decide) (by decide)), PShelves_t hF (lo 70 (by decide) (by decide) (by decide)) (lo 71 (by decide) (by decide) (by decide)) (lo 120 (by decide) (by decide) (by decide)) (lo 121 (by decide) (by decide) (by decide)) (lo 122 (by decide) (by decide) (by decide)), PTrace_t hC (by rw [lo 66 (by decide) (by decide) (by decide)]) (g100 40 rfl) (lo 67 (by decide) (by decide) (by decide)) (lo 123 (by decide) (by decide) (by decide))⟩
theorem k_fly {z : zH} (h : Inv z) {a : Int} (ha : zR a) : two 103 176 [xI (zI a)] z := by
  have hI0 := h
  obtain ⟨hz, hW, -⟩ := h
  have hL := hW.1.2
  have hR := RLand_R hW.1.1
  have hC : PCraft 6 z (z 101) := hW.2.1
  obtain ⟨p0, p1, p2, p3, p4, g, g5⟩ := hC
  have hcr : crC z 6 = crV (z 101) := by simp only [crC, crV, p0, p1, p2, p3]
  by_cases q1 : 0 ≤ a ∧ a ≤ 8
  · refine xw_m (P := fun r z1 => r = (if (spFlown (z 101) (crC z 6) (z 6 4) a).1 = 0 then -4 else (spFlown (z 101) (crC z 6) (z 6 4) a).2.1.2.2.2) ∧ (crC z1 6, z1 6 4) = (spFlown (z 101) (crC z 6) (z 6 4) a).2 ∧ fr [6] z z1) ?_ ?_
    · rw [e_X11_fly]
      simp only [zLit, c_within _ ha (zR_s (show -1000000 ≤ (0 : Int) ∧ (0 : Int) ≤ 1000000 by omega)) (zR_s (show -1000000 ≤ (8 : Int) ∧ (8 : Int) ≤ 1000000 by omega)), xbd_s, zB_0]
      rw [if_neg (fun w => w q1)]
      refine xw_k (c_flownNow 55 hz hR hL (by rw [hcr]; exact g) (by omega) ha) ?_
      intro r z1 hr hz1 ⟨e, f⟩
      have e1 : r = (spFlown (z 101) (crC z 6) (z 6 4) a).1 := by rw [← e]
      have e2 : (crC z1 6, z1 6 4) = (spFlown (z 101) (crC z 6) (z 6 4) a).2 := by rw [← e]
      by_cases w : r = 0
      · rw [if_pos (by rw [w]), zI_neg]
        exact xw_ret (zR_s (by omega)) hz1 ⟨by rw [← e1, if_pos w], e2, f⟩
      · rw [if_neg (by rw [zI_eq hr (zR_s (by omega))]; exact w)]
        simp only [hI_fs]
        exact xw_ret (hz1 _ _) hz1 ⟨by rw [← e1, if_neg w, ← e2], e2, f⟩
    · intro r z1 hr hz1 ⟨e, ec, f⟩
      have e1 : z1 101 = z 101 := f 101 rfl
      rw [e_X12_fly]
      simp only [zLit, m_isAct _ ha, xbd_s, zB_0]
      rw [if_neg (fun w => w q1)]
      refine xw_k (m_flown 55 hz1 (by rw [e1]; exact hL) (by rw [e1]; exact g) (by rw [e1]; exact g5) q1) ?_
      intro r2 z2 hr2 hz2 ⟨k, f2, g2, k2⟩
      rw [e1] at k
      rw [hcr, p4] at e ec
      have ok := spFlown_ok hL (a := a) g g5
      have k1 : r2 = (spFlown (z 101) (crV (z 101)) (z 101 6) a).1 := by rw [← k]
      have kc : (crV (z2 101), z2 101 6) = (spFlown (z 101) (crV (z 101)) (z 101 6) a).2 := by rw [← k]
      rw [← kc] at ec ok e
      injection ec with ec et
      have inv : Inv z2 := Inv_craft hI0 hz2 f f2 g2 k2 ec et ok.1 ⟨ok.2.1, ok.2.2.1⟩
      by_cases w : r2 = 0
      · rw [if_pos (by rw [w]), zI_neg]
        refine xw_ret (zR_s (by omega)) hz2 ⟨?_, inv⟩
        rw [e, ← k1, if_pos w]
      · rw [if_neg (by rw [zI_eq hr2 (zR_s (by omega))]; exact w)]
        have hz := hz2
        refine xw_eq (r := z2 101 5) (z := z2) ?_ (hz2 _ _) hz2 ⟨?_, inv⟩
        · simp (maxSteps := 3000000) (disch := (first | exact hz _ _ | exact hv _ | exact hL | assumption | (simp (disch := decide) only [zup_ne]; exact hL) | (simp only [zR]; omega) | omega)) only [zLit, zI_div, hI_fs, hI_us, zI_add, zI_sub, zI_mul, zI_neg, zI_lt, zI_eq, zI_ite, xbd_s, zI_nat, zld, zst, zbd, zB_0, zB_1, lenX_s, zup_at, xgd, cond_true, cond_false, and_self, and_true, true_and, false_and, and_false, or_self, or_false, false_or, if_true, if_false, ite_true, ite_false, reduceIte, reduceCtorEq, Nat.reduceEqDiff, Nat.reduceAdd, Nat.reduceMul, Int.reduceNeg, Int.reduceAdd, Int.reduceSub, Int.reduceMul, Int.reduceLT, Int.reduceLE, Int.reduceEq, Int.reduceDiv, Int.reduceMod, Int.reduceToNat, Int.toNat_zero, Int.toNat_one, Nat.reduceLeDiff, Nat.reduceLT, ite_not, not_true, not_false_eq_true]
        · rw [e, ← k1, if_neg w]
  · refine two_ro hI0 (-1) (by simp only [zR]; omega) ?_ ?_
    · rw [e_X11_fly]
      repeat' (first | (with_reducible apply hs_f; (case h => (first | (simp (disch := (first | exact hz _ _ | exact hv _ | exact hL | assumption | (simp (disch := decide) only [zup_ne]; exact hL) | (simp only [zR]; omega) | omega)) only [zLit, zI_div, hI_fs, hI_us, zI_add, zI_sub, zI_mul, zI_neg, zI_lt, zI_eq, zI_ite, xbd_s, zI_nat, zld, zst, zbd, zB_0, zB_1, lenX_s, zup_at, xgd, cond_true, cond_false, and_self, and_true, true_and, false_and, and_false, or_self, or_false, false_or, if_true, if_false, ite_true, ite_false, reduceIte, reduceCtorEq, Nat.reduceEqDiff, Nat.reduceAdd, Nat.reduceMul, Int.reduceNeg, Int.reduceAdd, Int.reduceSub, Int.reduceMul, Int.reduceLT, Int.reduceLE, Int.reduceEq, Int.reduceDiv, Int.reduceMod, Int.reduceToNat, Int.toNat_zero, Int.toNat_one, Nat.reduceLeDiff, Nat.reduceLT, ite_not, not_true, not_false_eq_true] <;> omega) | omega))) | (with_reducible apply hs_t; (case h => (first | (simp (disch := (first | exact hz _ _ | exact hv _ | exact hL | assumption | (simp (disch := decide) only [zup_ne]; exact hL) | (simp only [zR]; omega) | omega)) only [zLit, zI_div, hI_fs, hI_us, zI_add, zI_sub, zI_mul, zI_neg, zI_lt, zI_eq, zI_ite, xbd_s, zI_nat, zld, zst, zbd, zB_0, zB_1, lenX_s, zup_at, xgd, cond_true, cond_false, and_self, and_true, true_and, false_and, and_false, or_self, or_false, false_or, if_true, if_false, ite_true, ite_false, reduceIte, reduceCtorEq, Nat.reduceEqDiff, Nat.reduceAdd, Nat.reduceMul, Int.reduceNeg, Int.reduceAdd, Int.reduceSub, Int.reduceMul, Int.reduceLT, Int.reduceLE, Int.reduceEq, Int.reduceDiv, Int.reduceMod, Int.reduceToNat, Int.toNat_zero, Int.toNat_one, Nat.reduceLeDiff, Nat.reduceLT, ite_not, not_true, not_false_eq_true] <;> omega) | omega))) | (with_reducible apply hs_b; (case h => (simp (disch := (first | exact hz _ _ | exact hv _ | exact hL | assumption | (simp (disch := decide) only [zup_ne]; exact hL) | (simp only [zR]; omega) | omega)) only [zLit, zI_div, hI_fs, hI_us, zI_add, zI_sub, zI_mul, zI_neg, zI_lt, zI_eq, zI_ite, xbd_s, zI_nat, zld, zst, zbd, zB_0, zB_1, lenX_s, zup_at, xgd, cond_true, cond_false, and_self, and_true, true_and, false_and, and_false, or_self, or_false, false_or, if_true, if_false, ite_true, ite_false, reduceIte, reduceCtorEq, Nat.reduceEqDiff, Nat.reduceAdd, Nat.reduceMul, Int.reduceNeg, Int.reduceAdd, Int.reduceSub, Int.reduceMul, Int.reduceLT, Int.reduceLE, Int.reduceEq, Int.reduceDiv, Int.reduceMod, Int.reduceToNat, Int.toNat_zero, Int.toNat_one, Nat.reduceLeDiff, Nat.reduceLT, ite_not, not_true, not_false_eq_true, c_within]; rfl)); try dsimp only) | (with_reducible apply hs_c <;> intro q9 <;> (try simp (disch := (first | exact hz _ _ | exact hv _ | exact hL | assumption | (simp (disch := decide) only [zup_ne]; exact hL) | (simp only [zR]; omega) | omega)) only [zLit, zI_div, hI_fs, hI_us, zI_add, zI_sub, zI_mul, zI_neg, zI_lt, zI_eq, zI_ite, xbd_s, zI_nat, zld, zst, zbd, zB_0, zB_1, lenX_s, zup_at, xgd, cond_true, cond_false, and_self, and_true, true_and, false_and, and_false, or_self, or_false, false_or, if_true, if_false, ite_true, ite_false, reduceIte, reduceCtorEq, Nat.reduceEqDiff, Nat.reduceAdd, Nat.reduceMul, Int.reduceNeg, Int.reduceAdd, Int.reduceSub, Int.reduceMul, Int.reduceLT, Int.reduceLE, Int.reduceEq, Int.reduceDiv, Int.reduceMod, Int.reduceToNat, Int.toNat_zero, Int.toNat_one, Nat.reduceLeDiff, Nat.reduceLT, ite_not, not_true, not_false_eq_true] at q9)))
      all_goals first | rfl | omega | (simp (maxSteps := 3000000) (disch := (first | exact hz _ _ | exact hv _ | exact hL | assumption | (simp (disch := decide) only [zup_ne]; exact hL) | (simp only [zR]; omega) | omega)) only [zLit, zI_div, hI_fs, hI_us, zI_add, zI_sub, zI_mul, zI_neg, zI_lt, zI_eq, zI_ite, xbd_s, zI_nat, zld, zst, zbd, zB_0, zB_1, lenX_s, zup_at, xgd, cond_true, cond_false, and_self, and_true, true_and, false_and, and_false, or_self, or_false, false_or, if_true, if_false, ite_true, ite_false, reduceIte, reduceCtorEq, Nat.reduceEqDiff, Nat.reduceAdd, Nat.reduceMul, Int.reduceNeg, Int.reduceAdd, Int.reduceSub, Int.reduceMul, Int.reduceLT, Int.reduceLE, Int.reduceEq, Int.reduceDiv, Int.reduceMod, Int.reduceToNat, Int.toNat_zero, Int.toNat_one, Nat.reduceLeDiff, Nat.reduceLT, ite_not, not_true, not_false_eq_true]; done) | (simp (maxSteps := 3000000) (disch := (first | exact hz _ _ | exact hv _ | exact hL | assumption | (simp (disch := decide) only [zup_ne]; exact hL) | (simp only [zR]; omega) | omega)) only [zLit, zI_div, hI_fs, hI_us, zI_add, zI_sub, zI_mul, zI_neg, zI_lt, zI_eq, zI_ite, xbd_s, zI_nat, zld, zst, zbd, zB_0, zB_1, lenX_s, zup_at, xgd, cond_true, cond_false, and_self, and_true, true_and, false_and, and_false, or_self, or_false, false_or, if_true, if_false, ite_true, ite_false, reduceIte, reduceCtorEq, Nat.reduceEqDiff, Nat.reduceAdd, Nat.reduceMul, Int.reduceNeg, Int.reduceAdd, Int.reduceSub, Int.reduceMul, Int.reduceLT, Int.reduceLE, Int.reduceEq, Int.reduceDiv, Int.reduceMod, Int.reduceToNat, Int.toNat_zero, Int.toNat_one, Nat.reduceLeDiff, Nat.reduceLT, ite_not, not_true, not_false_eq_true]; rfl)
    · rw [e_X12_fly]
      repeat' (first | (with_reducible apply hs_f; (case h => (first | (simp (disch := (first | exact hz _ _ | exact hv _ | exact hL | assumption | (simp (disch := decide) only [zup_ne]; exact hL) | (simp only [zR]; omega) | omega)) only [zLit, zI_div, hI_fs, hI_us, zI_add, zI_sub, zI_mul, zI_neg, zI_lt, zI_eq, zI_ite, xbd_s, zI_nat, zld, zst, zbd, zB_0, zB_1, lenX_s, zup_at, xgd, cond_true, cond_false, and_self, and_true, true_and, false_and, and_false, or_self, or_false, false_or, if_true, if_false, ite_true, ite_false, reduceIte, reduceCtorEq, Nat.reduceEqDiff, Nat.reduceAdd, Nat.reduceMul, Int.reduceNeg, Int.reduceAdd, Int.reduceSub, Int.reduceMul, Int.reduceLT, Int.reduceLE, Int.reduceEq, Int.reduceDiv, Int.reduceMod, Int.reduceToNat, Int.toNat_zero, Int.toNat_one, Nat.reduceLeDiff, Nat.reduceLT, ite_not, not_true, not_false_eq_true] <;> omega) | omega))) | (with_reducible apply hs_t; (case h => (first | (simp (disch := (first | exact hz _ _ | exact hv _ | exact hL | assumption | (simp (disch := decide) only [zup_ne]; exact hL) | (simp only [zR]; omega) | omega)) only [zLit, zI_div, hI_fs, hI_us, zI_add, zI_sub, zI_mul, zI_neg, zI_lt, zI_eq, zI_ite, xbd_s, zI_nat, zld, zst, zbd, zB_0, zB_1, lenX_s, zup_at, xgd, cond_true, cond_false, and_self, and_true, true_and, false_and, and_false, or_self, or_false, false_or, if_true, if_false, ite_true, ite_false, reduceIte, reduceCtorEq, Nat.reduceEqDiff, Nat.reduceAdd, Nat.reduceMul, Int.reduceNeg, Int.reduceAdd, Int.reduceSub, Int.reduceMul, Int.reduceLT, Int.reduceLE, Int.reduceEq, Int.reduceDiv, Int.reduceMod, Int.reduceToNat, Int.toNat_zero, Int.toNat_one, Nat.reduceLeDiff, Nat.reduceLT, ite_not, not_true, not_false_eq_true] <;> omega) | omega))) | (with_reducible apply hs_b; (case h => (simp (disch := (first | exact hz _ _ | exact hv _ | exact hL | assumption | (simp (disch := decide) only [zup_ne]; exact hL) | (simp only [zR]; omega) | omega)) only [zLit, zI_div, hI_fs, hI_us, zI_add, zI_sub, zI_mul, zI_neg, zI_lt, zI_eq, zI_ite, xbd_s, zI_nat, zld, zst, zbd, zB_0, zB_1, lenX_s, zup_at, xgd, cond_true, cond_false, and_self, and_true, true_and, false_and, and_false, or_self, or_false, false_or, if_true, if_false, ite_true, ite_false, reduceIte, reduceCtorEq, Nat.reduceEqDiff, Nat.reduceAdd, Nat.reduceMul, Int.reduceNeg, Int.reduceAdd, Int.reduceSub, Int.reduceMul, Int.reduceLT, Int.reduceLE, Int.reduceEq, Int.reduceDiv, Int.reduceMod, Int.reduceToNat, Int.toNat_zero, Int.toNat_one, Nat.reduceLeDiff, Nat.reduceLT, ite_not, not_true, not_false_eq_true, m_isAct]; rfl)); try dsimp only) | (with_reducible apply hs_c <;> intro q9 <;> (try simp (disch := (first | exact hz _ _ | exact hv _ | exact hL | assumption | (simp (disch := decide) only [zup_ne]; exact hL) | (simp only [zR]; omega) | omega)) only [zLit, zI_div, hI_fs, hI_us, zI_add, zI_sub, zI_mul, zI_neg, zI_lt, zI_eq, zI_ite, xbd_s, zI_nat, zld, zst, zbd, zB_0, zB_1, lenX_s, zup_at, xgd, cond_true, cond_false, and_self, and_true, true_and, false_and, and_false, or_self, or_false, false_or, if_true, if_false, ite_true, ite_false, reduceIte, reduceCtorEq, Nat.reduceEqDiff, Nat.reduceAdd, Nat.reduceMul, Int.reduceNeg, Int.reduceAdd, Int.reduceSub, Int.reduceMul, Int.reduceLT, Int.reduceLE, Int.reduceEq, Int.reduceDiv, Int.reduceMod, Int.reduceToNat, Int.toNat_zero, Int.toNat_one, Nat.reduceLeDiff, Nat.reduceLT, ite_not, not_true, not_false_eq_true] at q9)))
      all_goals first | rfl | omega | (simp (maxSteps := 3000000) (disch := (first | exact hz _ _ | exact hv _ | exact hL | assumption | (simp (disch := decide) only [zup_ne]; exact hL) | (simp only [zR]; omega) | omega)) only [zLit, zI_div, hI_fs, hI_us, zI_add, zI_sub, zI_mul, zI_neg, zI_lt, zI_eq, zI_ite, xbd_s, zI_nat, zld, zst, zbd, zB_0, zB_1, lenX_s, zup_at, xgd, cond_true, cond_false, and_self, and_true, true_and, false_and, and_false, or_self, or_false, false_or, if_true, if_false, ite_true, ite_false, reduceIte, reduceCtorEq, Nat.reduceEqDiff, Nat.reduceAdd, Nat.reduceMul, Int.reduceNeg, Int.reduceAdd, Int.reduceSub, Int.reduceMul, Int.reduceLT, Int.reduceLE, Int.reduceEq, Int.reduceDiv, Int.reduceMod, Int.reduceToNat, Int.toNat_zero, Int.toNat_one, Nat.reduceLeDiff, Nat.reduceLT, ite_not, not_true, not_false_eq_true]; done) | (simp (maxSteps := 3000000) (disch := (first | exact hz _ _ | exact hv _ | exact hL | assumption | (simp (disch := decide) only [zup_ne]; exact hL) | (simp only [zR]; omega) | omega)) only [zLit, zI_div, hI_fs, hI_us, zI_add, zI_sub, zI_mul, zI_neg, zI_lt, zI_eq, zI_ite, xbd_s, zI_nat, zld, zst, zbd, zB_0, zB_1, lenX_s, zup_at, xgd, cond_true, cond_false, and_self, and_true, true_and, false_and, and_false, or_self, or_false, false_or, if_true, if_false, ite_true, ite_false, reduceIte, reduceCtorEq, Nat.reduceEqDiff, Nat.reduceAdd, Nat.reduceMul, Int.reduceNeg, Int.reduceAdd, Int.reduceSub, Int.reduceMul, Int.reduceLT, Int.reduceLE, Int.reduceEq, Int.reduceDiv, Int.reduceMod, Int.reduceToNat, Int.toNat_zero, Int.toNat_one, Nat.reduceLeDiff, Nat.reduceLT, ite_not, not_true, not_false_eq_true]; rfl)
