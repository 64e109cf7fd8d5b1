/-! PURE, part 52: search -/
def CL (v : Int → Int) (z : zH) (H : Int) : Prop := ∀ q, 0 ≤ q → q < 768 → H < z 51 q → clsd v (z 51) q
theorem clsd_up {v b b' : Int → Int} {q : Int} (h : clsd v b q) (hb : ∀ x, b x ≤ b' x) (hq : b' q = b q) : clsd v b' q := by
  intro a hm
  rw [hq] at hm ⊢
  exact Int.le_trans (h a hm) (hb _)
def gdP (v : Int → Int) (g p : Int) : Prop := (0 ≤ g ∧ g < v 7) ∧ goodE v g (p / 12) (p % 3)
def PostS (v : Int → Int) (c0 : crft) (g : Int) (z0 z' : zH) : Prop := (∀ q, 0 ≤ q → q < 768 → 0 ≤ z' 51 q → z' 51 q ≤ 99 ∧ Rch v c0 (unp q (z' 51 q))) ∧ c0.2.2.2 ≤ z' 51 (plc c0) ∧ (∃ H, -1 ≤ H ∧ CL v z' H ∧ (H = -1 ∨ ∃ p, 0 ≤ p ∧ p < 768 ∧ z' 51 p = H ∧ gdP v g p)) ∧ fr [51, 52, 53, 54] z0 z'
/-- what holds when a HEIGHT begins -/
def OutS (v : Int → Int) (c0 : crft) (z0 z : zH) (L : Int → List Int) (H : Int) : Prop := SR v c0 z L (H + 1) ∧ CL v z H ∧ c0.2.2.2 ≤ z 51 (plc c0) ∧ fr [51, 52, 53, 54] z0 z
/-- and within it -/
def InS (v : Int → Int) (c0 : crft) (z0 z : zH) (L : Int → List Int) (H : Int) : Prop := SR v c0 z L H ∧ (∀ q, 0 ≤ q → q < 768 → H ≤ z 51 q → (z 51 q = H ∧ q ∈ L H) ∨ clsd v (z 51) q) ∧ c0.2.2.2 ≤ z 51 (plc c0) ∧ fr [51, 52, 53, 54] z0 z
theorem Out_In {v : Int → Int} {c0 : crft} {z0 z : zH} {L : Int → List Int} {H : Int} (h0 : 0 ≤ H) (h : OutS v c0 z0 z L H) : InS v c0 z0 z L H := by
  obtain ⟨⟨s1, s2, s3⟩, c, b, f⟩ := h
  refine ⟨⟨s1, s2, fun q q0 q1 b0 b1 => s3 q q0 q1 b0 (by omega)⟩, fun q q0 q1 hq => ?_, b, f⟩
  by_cases e : z 51 q = H
  · left
    have := s3 q q0 q1 (by omega) (by omega)
    rw [e] at this
    exact ⟨e, this⟩
  · right
    exact c q q0 q1 (by omega)
theorem In_Out {v : Int → Int} {c0 : crft} {z0 z : zH} {L : Int → List Int} {H : Int} (hL : L H = []) (h : InS v c0 z0 z L H) : OutS v c0 z0 z L (H - 1) := by
  obtain ⟨⟨s1, s2, s3⟩, c, b, f⟩ := h
  refine ⟨⟨s1, s2, fun q q0 q1 b0 b1 => s3 q q0 q1 b0 (by omega)⟩, fun q q0 q1 hq => ?_, b, f⟩
  rcases c q q0 q1 (by omega) with e | e
  · have := e.2
    rw [hL] at this
    exact absurd this (by simp)
  · exact e
theorem c_popW (d : Nat) {z : zH} (hz : zRR z) {L : Int → List Int} (h : Chn z L) {p H : Int} (hH : 0 ≤ H ∧ H ≤ 99) (hin : p ∈ L H) : xw (cM (d + 2) 53 [xR 22 50, xI (zI p), xI (zI H)] (hI z)) (fun _ z' => (∃ A B, L H = A ++ p :: B ∧ Chn z' (lPut L H (A ++ B))) ∧ fr [52, 53, 54] z z') := by
  obtain ⟨g1, g2, g3⟩ := h _ hH.1 hH.2
  have hv : z 53 p = -1 ∨ (0 ≤ z 53 p ∧ z 53 p < 768) := by
    obtain ⟨A, B, hL⟩ := List.append_of_mem hin
    rcases seg_nx A _ _ (hL ▸ g1) with e | e
    · left; exact e
    · right; exact (g3 _ (by rw [hL]; exact List.mem_append_right _ (List.mem_cons_of_mem _ e))).1
  have hv2 : z 54 p = -1 ∨ (0 ≤ z 54 p ∧ z 54 p < 768) := by
    obtain ⟨A, B, hL⟩ := List.append_of_mem hin
    rw [hL] at g1
    cases A with
    | nil => left; exact g1.2.1
    | cons a A =>
      right
      have e := seg_pv A _ _ a g1
      refine (g3 _ ?_).1
      rw [hL]
      rcases List.mem_cons.mp e with e | e
      · rw [e]; exact List.mem_cons_self ..
      · exact List.mem_cons_of_mem _ (List.mem_append_left _ e)
  refine xw_m (c_unchain d hz (g3 p hin).1 hH hv hv2) ?_
  intro r z1 hr hz1 ⟨e1, e2, e3, f⟩
  exact ⟨Chn_pop h hH hin e1 e2 e3 (f 51 rfl), f⟩
theorem c_search_in (d : Nat) {v : Int → Int} (hv : ∀ k, zR (v k)) (hLd : LandI v) {c0 : crft} (ok0 : okC v c0) {z0 : zH} (hR0 : LandR z0 v) (hE0 : PEnds 7 z0 v) {g H : Int} (hg : zR g) (hH : 0 ≤ H ∧ H ≤ 99) (N0 : Nat) (cont : ∀ (z : zH) (L : Int → List Int), zRR z → OutS v c0 z0 z L (H - 1) → ∀ n, N0 ≤ n → xw (r_X6_search (d + 4) n 41 [some (xR 22 50), some (xR 26 1), none, some (xI (zI g)), some (xI (zI (H - 1))), none, none, none] [] (hI z)) (fun _ z' => PostS v c0 g z0 z')) : ∀ (m : Nat) (i : Int), 0 ≤ i → i + m = 768 → ∀ (z : zH) (L : Int → List Int), zRR z → InS v c0 z0 z L H → (L H).length ≤ m → ∀ n, N0 + m < n → xw (r_X6_search (d + 4) n 49 [some (xR 22 50), some (xR 26 1), none, some (xI (zI g)), some (xI (zI H)), some (xI (zI i)), none, none] [] (hI z)) (fun _ z' => PostS v c0 g z0 z') := by
  have h0r : zR 0 := zR_s (by omega)
  have Hr : zR H := zR_s (by omega)
  have m1 : zR (-1) := zR_s (by omega)
  have har := area hLd.1 hLd.2.1
  have bH := bnd (n := 100) hH.1 (by omega) (by omega)
  have n12 : ¬ zI 12 = zI 0 := by decide
  have n3 : ¬ zI 3 = zI 0 := by decide
  intro m
  induction m with
  | zero =>
    intro i i0 i1 z L hz hI hl n hn
    obtain ⟨n, rfl⟩ := Nat.exists_eq_succ_of_ne_zero (show n ≠ 0 by omega)
    rw [l_X6_search_49]
    simp only [zLit, zI_neg, zI_add]
    rw [if_neg (by rw [zI_lt (zR_s (by omega)) (zR_s (by omega))]; omega)]
    exact cont z L hz (In_Out (List.eq_nil_of_length_eq_zero (by omega)) hI) n (by omega)
  | succ m ih =>
    intro i i0 i1 z L hz hI hl n hn
    obtain ⟨n, rfl⟩ := Nat.exists_eq_succ_of_ne_zero (show n ≠ 0 by omega)
    have hI' := hI
    obtain ⟨⟨s1, s2, s3⟩, c, b, f⟩ := hI
    obtain ⟨g1, g2, g3⟩ := s1 H hH.1 hH.2
    have e52 : hI z 52 (zI H).toNatClampNeg = zI (z 52 H) := by rw [zI_nat Hr, zld hH.1]
    rw [l_X6_search_49]
    simp only [zLit, zI_neg, zI_add, lenX_s, if_neg bH, e52]
    rw [if_pos (by rw [zI_lt (zR_s (by omega)) (zR_s (by omega))]; omega)]
    by_cases q : z 52 H = -1
    · rw [o_isPlace _ (p := z 52 H) (by omega) (hz _ _), xbd_m, if_pos rfl]
      refine cont z L hz (In_Out ?_ hI') n (by omega)
      cases hLH : L H with
      | nil => rfl
      | cons p ps =>
        rw [hLH] at g1 g3
        have := (g3 p (List.mem_cons_self ..)).1
        have := g1.1
        omega
    · have hin : z 52 H ∈ L H := (seg_hd g1).resolve_left q
      obtain ⟨p, hp⟩ : ∃ p, p = z 52 H := ⟨_, rfl⟩
      rw [← hp] at hin q ⊢
      have pb := (g3 p hin).1
      have pH := (g3 p hin).2
      have pr : zR p := zR_s (by omega)
      rw [y_isPlace _ pb, xbd_m, if_neg nI10]
      simp only [e52, ← hp]
      have ro := (s2 p pb.1 pb.2 (by omega)).2
      rw [pH] at ro
      have okp := Rch_ok hLd ok0 ro
      have hcell : p / 12 < v 0 * v 1 := okp.1.2
      refine xw_k (c_popW _ hz s1 hH hin) ?_
      intro r z1 hr hz1 ⟨⟨A, B, hAB, hC⟩, f1⟩
      have e51 : z1 51 = z 51 := f1 51 rfl
      have fz1 : fr [51, 52, 53, 54] z0 z1 := fr_tr f (fr_mono (T := [51, 52, 53, 54]) f1 rfl) rfl
      have hE1 : PEnds 7 z1 v := PEnds_t hE0 (fz1 7 rfl) (fz1 8 rfl) (fun _ _ => rfl)
      have hR1 : LandR z1 v := LandR_fr hR0 fz1 rfl rfl rfl rfl
      have d12 : zI p / zI 12 = zI (p / 12) := zI_div pr pb.1 (by omega) (zR_s (by omega))
      have d3 : zI p - zI p / zI 3 * zI 3 = zI (p % 3) := zI_rem pr pb.1 (by omega) (zR_s (by omega))
      have cg := fun d => c_isGood d hz1 hv hE1 (e := g) (c := p / 12) (s := p % 3) hg (zR_s (by omega)) (zR_s (by omega))
      have cgr := fun d => c_ground d hR1 (c := p / 12) ⟨by omega, by omega⟩
      simp only [if_neg n12, if_neg n3, d12, d3]
      simp only [cg, xbd_n, zB_0]
      have inL : ∀ x, x ∈ L H → x ≠ p → x ∈ A ++ B := by
        intro x hx hne
        rw [hAB] at hx
        rcases List.mem_append.mp hx with e | e
        · exact List.mem_append_left _ e
        · exact List.mem_append_right _ ((List.mem_cons.mp e).resolve_left hne)
      have SR1 : SR v c0 z1 (lPut L H (A ++ B)) H := ⟨hC, fun x x0 x1 => by rw [e51]; exact s2 x x0 x1, fun x x0 x1 => by
        rw [e51]
        intro b0 b1
        rw [lPut_o (by omega)]
        exact s3 x x0 x1 b0 b1⟩
      have len : (A ++ B).length ≤ m := by
        rw [hAB] at hl
        simp only [List.length_append, List.length_cons] at hl ⊢
        omega
      by_cases gd : gdP v g p
      · rw [if_neg (fun x => x gd)]
        refine xw_ret h0r hz1 ⟨fun x x0 x1 => by rw [e51]; exact s2 x x0 x1, by rw [e51]; exact b, ⟨H, by omega, fun x x0 x1 hx => ?_, Or.inr ⟨p, pb.1, pb.2, by rw [e51]; exact pH, gd⟩⟩, fz1⟩
        rw [e51] at hx ⊢
        rcases c x x0 x1 (by omega) with e | e
        · have := e.1; omega
        · exact e
      · have gd' : ¬ ((0 ≤ g ∧ g < v 7) ∧ goodE v g (p / 12) (p % 3)) := gd
        rw [if_pos gd']
        simp only [Nat.reduceAdd, cgr, xbd_n]
        have grr : zR (v (24 + p / 12)) := hv _
        by_cases w : v (24 + p / 12) < H
        · rw [if_pos (by rw [zI_lt grr Hr]; exact w)]
          refine xw_k (c_spread d hLd ⟨pb.1, hcell⟩ hH w ro hz1 hR1 SR1) ?_
          intro r2 z2 hr2 hz2 ⟨L2, t1, t2, t3, t4, t5, t6⟩
          have l2 : L2 H = A ++ B := by rw [t4 H (Int.le_refl _), lPut_s]
          refine ih (i + 1) (by omega) (by omega) z2 L2 hz2 ⟨t1, fun x x0 x1 hx => ?_, Int.le_trans (by rw [e51]; exact b) (t2 _), fr_tr fz1 t6 rfl⟩ (by rw [l2]; exact len) n (by omega)
          have ex := t3 x hx
          have hx1 : H ≤ z1 51 x := by rw [← ex]; exact hx
          by_cases e : x = p
          · right
            subst e
            have ez : z2 51 x = H := by rw [ex, e51]; exact pH
            intro a hm
            rw [ez] at hm ⊢
            exact t5 a hm
          · rw [e51] at hx1
            rcases c x x0 x1 hx1 with y | y
            · left
              rw [l2, ex, e51]
              exact ⟨y.1, inL x y.2 e⟩
            · right
              exact clsd_up y (fun k => by rw [← e51]; exact t2 k) (by rw [ex, e51])
        · rw [if_neg (by rw [zI_lt grr Hr]; exact w)]
          refine ih (i + 1) (by omega) (by omega) z1 _ hz1 ⟨SR1, fun x x0 x1 hx => ?_, by rw [e51]; exact b, fz1⟩ (by rw [lPut_s]; exact len) n (by omega)
          rw [e51] at hx ⊢
          by_cases e : x = p
          · right
            subst e
            intro a hm
            rw [pH] at hm
            exact absurd hm.2.1 (fun y => y (by simp only [unp]; omega))
          · rcases c x x0 x1 hx with y | y
            · left
              rw [lPut_s]
              exact ⟨y.1, inL x y.2 e⟩
            · right
              exact y
