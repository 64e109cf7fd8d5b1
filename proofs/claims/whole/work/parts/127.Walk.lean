/-! PURE, part 57: the model's walk of a bucket, of all HEIGHTS -/
def CM (v : Int → Int) (z : zH) (H : Int) : Prop := ∀ q, 0 ≤ q → q < 768 → H < z 104 q → clsd v (z 104) q
def FZ (z0 z : zH) : Prop := fr [100, 104, 105, 106, 107] z0 z ∧ ff [5, 6, 7, 8, 13] z0 z
def OutM (v : Int → Int) (c0 : crft) (z0 z : zH) (B : Int → List Int) (S : List Int) (H : Int) : Prop := SM v c0 z B (H + 1) ∧ CM v z H ∧ c0.2.2.2 ≤ z 104 (plc c0) ∧ (S.Nodup ∧ ∀ q, q ∈ S → (0 ≤ q ∧ q < 768) ∧ H < z 104 q) ∧ (0 ≤ z 100 13 ∧ z 100 13 ≤ 1 + 9 * (S.length : Int)) ∧ FZ z0 z
def InM (v : Int → Int) (c0 : crft) (z0 z : zH) (B : Int → List Int) (S R : List Int) (H : Int) : Prop := SM v c0 z B H ∧ (∀ q, 0 ≤ q → q < 768 → H ≤ z 104 q → (z 104 q = H ∧ q ∈ R) ∨ clsd v (z 104) q) ∧ c0.2.2.2 ≤ z 104 (plc c0) ∧ (S.Nodup ∧ ∀ q, q ∈ S → (0 ≤ q ∧ q < 768) ∧ H ≤ z 104 q ∧ (z 104 q = H → q ∉ R)) ∧ (0 ≤ z 100 13 ∧ z 100 13 ≤ 1 + 9 * (S.length : Int)) ∧ (R.Nodup ∧ ∀ q, q ∈ R → (0 ≤ q ∧ q < 768) ∧ H ≤ z 104 q) ∧ FZ z0 z
theorem OutM_In {v : Int → Int} {c0 : crft} {z0 z : zH} {B : Int → List Int} {S : List Int} {H : Int} (h0 : 0 ≤ H ∧ H ≤ 99) (h : OutM v c0 z0 z B S H) : InM v c0 z0 z B S (B H) H := by
  obtain ⟨⟨s1, s2, s3⟩, c, b, ⟨n1, n2⟩, w, f⟩ := h
  have g := s1 H h0.1 h0.2
  refine ⟨⟨s1, s2, fun q q0 q1 b0 b1 => s3 q q0 q1 b0 (by omega)⟩, fun q q0 q1 hq => ?_, b, ⟨n1, fun q hq => ?_⟩, w, ⟨g.2.1, g.2.2⟩, f⟩
  · by_cases e : z 104 q = H
    · left
      have := s3 q q0 q1 (by omega) (by omega)
      rw [e] at this
      exact ⟨e, this⟩
    · right
      exact c q q0 q1 (by omega)
  · have := n2 q hq
    exact ⟨this.1, by omega, fun e => by omega⟩
theorem InM_Out {v : Int → Int} {c0 : crft} {z0 z : zH} {B : Int → List Int} {S : List Int} {H : Int} (h : InM v c0 z0 z B S [] H) : OutM v c0 z0 z B S (H - 1) := by
  obtain ⟨⟨s1, s2, s3⟩, c, b, ⟨n1, n2⟩, w, r, f⟩ := h
  refine ⟨⟨s1, s2, fun q q0 q1 b0 b1 => s3 q q0 q1 b0 (by omega)⟩, fun q q0 q1 hq => ?_, b, ⟨n1, fun q hq => ?_⟩, w, f⟩
  · rcases c q q0 q1 (by omega) with e | e
    · exact absurd e.2 (by simp)
    · exact e
  · have := n2 q hq
    exact ⟨this.1, by omega⟩
theorem FZ_tr {z0 z1 z2 : zH} (h : FZ z0 z1) (k : FZ z1 z2) : FZ z0 z2 := ⟨fr_tr h.1 k.1 rfl, ff_tr h.2 k.2 rfl⟩
def PostM (v : Int → Int) (c0 : crft) (z0 z : zH) : Prop := (∀ q, 0 ≤ q → q < 768 → 0 ≤ z 104 q → z 104 q ≤ 99 ∧ Rch v c0 (unp q (z 104 q))) ∧ c0.2.2.2 ≤ z 104 (plc c0) ∧ CM v z (-1) ∧ FZ z0 z
theorem m_walk (d : Nat) {v : Int → Int} (hL : LandI v) {c0 : crft} (ok0 : okC v c0) {z0 : zH} (h101 : z0 101 = v) {H : Int} (hH : 1 ≤ H ∧ H ≤ 99) {Q : Int → zH → Prop} (N0 : Nat) (cont : ∀ (z : zH) (B : Int → List Int) (S : List Int), zRR z → OutM v c0 z0 z B S (H - 1) → ∀ n, N0 ≤ n → xw (r_X12_reach (d + 3) n 80 [some (xR 28 100), some (xI (zI (H - 1))), none, none, none] [] (hI z)) Q) : ∀ (R : List Int) (c : Int) (z : zH) (B : Int → List Int) (S : List Int), zRR z → InM v c0 z0 z B S R H → msz z c R → ∀ n, N0 + 11 * R.length + 1 < n → xw (r_X12_reach (d + 3) n 91 [some (xR 28 100), some (xI (zI H)), some (xI (zI c)), none, none] [] (hI z)) Q := by
  have h0r : zR 0 := zR_s (by omega)
  have Hr : zR H := zR_s (by omega)
  intro R
  induction R with
  | nil =>
    intro c z B S hz hI hm n hn
    obtain ⟨n, rfl⟩ := Nat.exists_eq_succ_of_ne_zero (show n ≠ 0 by omega)
    rw [show c = -1 from hm, l_X12_reach_91]
    simp only [zLit, zI_neg, zI_add]
    rw [if_pos (by decide)]
    exact cont z B S hz (InM_Out hI) n (by simp only [List.length_nil] at hn; omega)
  | cons k ks ih =>
    intro c z B S hz hI hm n hn
    obtain ⟨n, rfl⟩ := Nat.exists_eq_succ_of_ne_zero (show n ≠ 0 by omega)
    obtain ⟨n, rfl⟩ := Nat.exists_eq_succ_of_ne_zero (show n ≠ 0 by omega)
    simp only [List.length_cons] at hn
    obtain ⟨m1, m2, m3⟩ := hm
    obtain ⟨hS, c1, b1, ⟨n1, n2⟩, w1, ⟨r1, r2⟩, f1⟩ := hI
    have hk := r2 k (List.mem_cons_self ..)
    have nk := List.nodup_cons.mp r1
    have v101 : z 101 = v := by rw [f1.1 101 rfl]; exact h101
    have Sl := nodup_len 768 S n1 (fun q hq => (n2 q hq).1)
    have cr : zR c := zR_s (by omega)
    have kr : zR k := zR_s (by omega)
    have bc := bnd (n := 7000) m1.1 (by omega) (by omega)
    have bk := bnd (n := 768) hk.1.1 (by omega) (by omega)
    have ec6 : hI z 106 (zI c).toNatClampNeg = zI k := by rw [zI_nat cr, zld m1.1, m2]
    have ec7 : hI z 107 (zI c).toNatClampNeg = zI (z 107 c) := by rw [zI_nat cr, zld m1.1]
    have ek : hI z 104 (zI k).toNatClampNeg = zI (z 104 k) := by rw [zI_nat kr, zld hk.1.1]
    rw [l_X12_reach_91]
    simp only [zLit, lenX_s, if_neg bc, ec6]
    rw [if_neg (by rw [zI_lt cr h0r]; omega)]
    by_cases q : z 104 k = H
    · have kS : k ∉ S := fun hm => (n2 k hm).2.2 q (List.mem_cons_self ..)
      have Sl2 := nodup_len 768 (k :: S) (List.nodup_cons.mpr ⟨kS, n1⟩) (fun x hx => by
        rcases List.mem_cons.mp hx with e | e
        · rw [e]; exact hk.1
        · exact (n2 x e).1)
      simp only [List.length_cons] at Sl2
      have hr := (hS.2.1 k hk.1.1 hk.1.2 (by omega)).2
      rw [q] at hr
      refine m_acts d hL ok0 (k := k) (H := H) (c := c) hk.1 hH hr (N0 + 11 * ks.length + 2) (z0 := z) (B0 := B) (by omega) m1 q ?_ 9 0 (by omega) (by omega) z B hz v101 hS (FA_rf _ _ _) (fun b hb hm => absurd hm.1.1 (by omega)) (n + 1) (by omega)
      intro z2 B2 hz2 hv2 hS2 F2 hcl n2' hn2
      obtain ⟨a1, a2, a3, a4, a5, a6, a7, a8⟩ := F2
      have e7 : z2 107 c = z 107 c := a6 c m1.2
      have z2k : z2 104 k = H := by
        have u := a1 k
        have w := a2 k (by omega)
        omega
      rw [e7]
      refine ih (z 107 c) z2 B2 (k :: S) hz2 ⟨hS2, fun x x0 x1 hx => ?_, Int.le_trans b1 (a1 _), ⟨List.nodup_cons.mpr ⟨kS, n1⟩, fun x hx => ?_⟩, ?_, ⟨nk.2, fun x hx => ?_⟩, FZ_tr f1 ⟨a7, a8⟩⟩ (a5 _ _ m3) n2' (by omega)
      · have ex := a2 x hx
        by_cases e : x = k
        · right
          subst e
          intro a hm
          rw [z2k] at hm ⊢
          exact hcl a hm
        · rcases c1 x x0 x1 (by omega) with y | y
          · left
            refine ⟨by omega, (List.mem_cons.mp y.2).resolve_left e⟩
          · right
            exact clsd_up y a1 ex
      · rcases List.mem_cons.mp hx with e | e
        · rw [e]
          exact ⟨hk.1, by omega, fun _ => nk.1⟩
        · have y := n2 x e
          have u := a1 x
          refine ⟨y.1, by omega, fun e2 hin => ?_⟩
          exact y.2.2 (by omega) (List.mem_cons_of_mem _ hin)
      · simp only [List.length_cons]
        omega
      · have y := r2 x (List.mem_cons_of_mem _ hx)
        have u := a1 x
        exact ⟨y.1, by omega⟩
    · rw [l_X12_reach_105]
      simp only [zLit, lenX_s, if_neg bk, if_neg bc, ek, ec7]
      rw [if_pos (by decide), if_neg (by rw [zI_eq (hz _ _) Hr]; exact q)]
      refine ih (z 107 c) z B S hz ⟨hS, fun x x0 x1 hx => ?_, b1, ⟨n1, fun x hx => ?_⟩, w1, ⟨nk.2, fun x hx => r2 x (List.mem_cons_of_mem _ hx)⟩, f1⟩ m3 n (by omega)
      · rcases c1 x x0 x1 hx with y | y
        · left
          refine ⟨y.1, (List.mem_cons.mp y.2).resolve_left (fun e => ?_)⟩
          rw [e] at y
          exact q y.1
        · right; exact y
      · have y := n2 x hx
        exact ⟨y.1, y.2.1, fun e hin => y.2.2 e (List.mem_cons_of_mem _ hin)⟩
theorem m_heights (d : Nat) {v : Int → Int} (hL : LandI v) {c0 : crft} (ok0 : okC v c0) {z0 : zH} (h101 : z0 101 = v) : ∀ (m : Nat) (H : Int), H = m → H ≤ 99 → ∀ (z : zH) (B : Int → List Int) (S : List Int), zRR z → OutM v c0 z0 z B S H → ∀ n, 8452 * m < n → xw (r_X12_reach (d + 3) n 80 [some (xR 28 100), some (xI (zI H)), none, none, none] [] (hI z)) (fun _ z' => PostM v c0 z0 z') := by
  have h0r : zR 0 := zR_s (by omega)
  have har := area hL.1 hL.2.1
  intro m
  induction m with
  | zero =>
    intro H hm h99 z B S hz h n hn
    obtain ⟨n, rfl⟩ := Nat.exists_eq_succ_of_ne_zero (show n ≠ 0 by omega)
    have e : H = 0 := by omega
    subst e
    obtain ⟨⟨s1, s2, s3⟩, c, b, -, -, f⟩ := h
    rw [l_X12_reach_80]
    simp only [zLit]
    rw [if_neg (by decide)]
    refine xw_ret h0r hz ⟨s2, b, fun q q0 q1 hq => ?_, f⟩
    by_cases e : z 104 q = 0
    · intro a hm
      have y := (s2 q q0 q1 (by omega)).2
      rw [e] at y hm
      have ok := Rch_ok hL ok0 y
      have gr := hL.2.2.1 (unp q 0).1 ok.1.1 (by have := ok.1.2; omega)
      exact absurd hm.2.1 (fun w => w (by show (0 : Int) ≤ _; omega))
    · exact c q q0 q1 (by omega)
  | succ m ih =>
    intro H hm h99 z B S hz h n hn
    obtain ⟨n, rfl⟩ := Nat.exists_eq_succ_of_ne_zero (show n ≠ 0 by omega)
    have Hr : zR H := zR_s (by omega)
    have bH := bnd (n := 100) (a := H) (by omega) (by omega) (by omega)
    have eH : hI z 105 (zI H).toNatClampNeg = zI (z 105 H) := by rw [zI_nat Hr, zld (by omega)]
    have hi := OutM_In ⟨by omega, h99⟩ h
    have g := h.1.1 H (by omega) h99
    have len := nodup_len 768 (B H) g.2.1 (fun q hq => (g.2.2 q hq).1)
    rw [l_X12_reach_80]
    simp only [zLit, lenX_s, if_neg bH, eH]
    rw [if_pos (by rw [zI_lt h0r Hr]; omega)]
    exact m_walk d hL ok0 h101 (H := H) ⟨by omega, h99⟩ (8452 * m + 1) (fun z B S hz ho n hn => ih (H - 1) (by omega) (by omega) z B S hz ho n (by omega)) (B H) (z 105 H) z B S hz hi g.1 n (by omega)
