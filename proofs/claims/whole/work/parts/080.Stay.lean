/-! PURE, part 10: what stays when other things change -/
theorem PLand_t {o : Nat} {z z' : zH} {v v' : Int → Int} (h : PLand o z v) (e0 : z' o = z o) (e1 : z' (o + 1) = z (o + 1)) (e2 : z' (o + 2) = z (o + 2)) (e3 : z' (o + 3) = z (o + 3)) (ev : ∀ k, (0 ≤ k ∧ k < 2) ∨ (15 ≤ k ∧ k < 152) → v' k = v k) : PLand o z' v' := by
  obtain ⟨⟨a, b, c, d, e⟩, l1, l2, l3, l4, l5, l6, l7, l8⟩ := h
  refine ⟨⟨?_, ?_, ?_, ?_, ?_⟩, ?_, ?_, ?_, ?_, ?_, ?_, ?_, ?_⟩
  · rw [e0, ev 0 (by omega)]; exact a
  · rw [e0, ev 1 (by omega)]; exact b
  · intro k h0 h1; rw [e1, ev _ (by omega)]; exact c k h0 h1
  · intro k h0 h1; rw [e2, ev _ (by omega)]; exact d k h0 h1
  · intro k h0 h1; rw [e3, ev _ (by omega)]; exact e k h0 h1
  · rw [ev 0 (by omega)]; exact l1
  · rw [ev 1 (by omega)]; exact l2
  · intro k h0 h1; rw [ev _ (by omega)]; exact l3 k h0 h1
  · intro k h0 h1; rw [ev _ (by omega)]; exact l4 k h0 h1
  · intro k h0 h1; rw [ev _ (by omega)]; exact l5 k h0 h1
  · rw [ev _ (by omega)]; exact l6
  · rw [ev _ (by omega)]; exact l7
  · intro k h0 h1; rw [ev _ (by omega)]; exact l8 k h0 h1
theorem PCraft_t {o : Nat} {z z' : zH} {v v' : Int → Int} (h : PCraft o z v) (e0 : z' o = z o) (ev : ∀ k, 0 ≤ k ∧ k < 7 → v' k = v k) : PCraft o z' v' := by
  obtain ⟨a, b, c, d, e, ⟨f1, f2, f3, f4⟩, g⟩ := h
  have v0 := ev 0 (by omega)
  have v1 := ev 1 (by omega)
  have v2 := ev 2 (by omega)
  have v3 := ev 3 (by omega)
  have v4 := ev 4 (by omega)
  have v5 := ev 5 (by omega)
  have v6 := ev 6 (by omega)
  simp only at f1 f2 f3 f4
  refine ⟨?_, ?_, ?_, ?_, ?_, ⟨?_, ?_, ?_, ?_⟩, ?_⟩ <;> simp only [e0, v0, v1, v2, v3, v4, v5, v6] <;> assumption
theorem RRows_t {o : Nat} {m w c b : Int} {z z' : zH} {v v' : Int → Int} (h : RRows o m w c b z v) (e0 : z' o = z o) (e1 : z' (o + 1) = z (o + 1)) (ec : v' c = v c) (ev : ∀ k, b ≤ k ∧ k < b + m * w → v' k = v k) : RRows o m w c b z' v' := by
  obtain ⟨a1, a2, a3, a4, a5⟩ := h
  refine ⟨by rw [e0]; exact a1, by rw [e0]; exact a2, by rw [e0, ec]; exact a3, by rw [ec]; exact a4, fun k h0 h1 => ?_⟩
  rw [e1, ev _ (by omega)]
  exact a5 k h0 h1
theorem PEnds_t {o : Nat} {z z' : zH} {v v' : Int → Int} (h : PEnds o z v) (e0 : z' o = z o) (e1 : z' (o + 1) = z (o + 1)) (ev : ∀ k, (0 ≤ k ∧ k < 2) ∨ k = 7 ∨ (152 ≤ k ∧ k < 192) → v' k = v k) : PEnds o z' v' := by
  have h7 := h.1.2.2.2.1
  refine ⟨RRows_t h.1 e0 e1 (ev 7 (by omega)) (fun k hk => ev k (by omega)), fun e h0 h1 => ?_⟩
  rw [ev 7 (by omega)] at h1
  have w := h.2 e h0 h1
  simp (disch := omega) only [ev]
  exact w
theorem PPlans_t {o : Nat} {z z' : zH} {v v' : Int → Int} (h : PPlans o z v) (e0 : z' o = z o) (e1 : z' (o + 1) = z (o + 1)) (ev : ∀ k, k = 8 ∨ (192 ≤ k ∧ k < 276) → v' k = v k) : PPlans o z' v' := by
  obtain ⟨⟨a, b, c, d⟩, e, f⟩ := h
  refine ⟨⟨by rw [e0]; exact a, by rw [e0]; exact b, by rw [e0, ev 8 (by omega)]; exact c, by rw [ev 8 (by omega)]; exact d⟩, fun p h0 h1 => ?_, fun p h0 h1 => ?_⟩
  · have w := e p h0 h1
    refine ⟨by rw [e1, ev _ (by omega)]; exact w.1, fun i i0 i1 => ?_⟩
    rw [e1, ev _ (by omega)]
    exact w.2 i i0 i1
  · rw [ev 8 (by omega)] at h1
    have w := f p h0 h1
    rw [ev (192 + 21 * p) (by omega)]
    refine ⟨w.1, fun i i0 i1 => ?_⟩
    rw [ev _ (by omega)]
    exact w.2 i i0 i1
theorem PScenes_t {o : Nat} {z z' : zH} {v v' : Int → Int} (h : PScenes o z v) (e0 : z' o = z o) (e1 : z' (o + 1) = z (o + 1)) (ev : ∀ k, k = 9 ∨ (276 ≤ k ∧ k < 296) → v' k = v k) : PScenes o z' v' := by
  have h7 := h.1.2.2.2.1
  refine ⟨RRows_t h.1 e0 e1 (ev 9 (by omega)) (fun k hk => ev k (by omega)), fun e h0 h1 => ?_⟩
  rw [ev 9 (by omega)] at h1
  have w := h.2 e h0 h1
  simp (disch := omega) only [ev]
  exact w
theorem PSteps_t {o : Nat} {z z' : zH} {v v' : Int → Int} (h : PSteps o z v) (e0 : z' o = z o) (e1 : z' (o + 1) = z (o + 1)) (ev : ∀ k, k = 11 ∨ (483 ≤ k ∧ k < 504) → v' k = v k) : PSteps o z' v' := by
  have h7 := h.1.2.2.2.1
  refine ⟨RRows_t h.1 e0 e1 (ev 11 (by omega)) (fun k hk => ev k (by omega)), fun e h0 h1 => ?_⟩
  rw [ev 11 (by omega)] at h1
  have w := h.2 e h0 h1
  simp (disch := omega) only [ev]
  exact w
theorem PJobs_t {o : Nat} {z z' : zH} {v v' : Int → Int} (h : PJobs o z v) (e0 : z' o = z o) (e1 : z' (o + 1) = z (o + 1)) (ev : ∀ k, k = 12 ∨ (504 ≤ k ∧ k < 512) → v' k = v k) : PJobs o z' v' := by
  have h7 := h.1.2.2.2.1
  refine ⟨RRows_t h.1 e0 e1 (ev 12 (by omega)) (fun k hk => ev k (by omega)), fun e h0 h1 => ?_⟩
  rw [ev 12 (by omega)] at h1
  have w := h.2 e h0 h1
  simp (disch := omega) only [ev]
  exact w
theorem PTrials_t {o : Nat} {z z' : zH} {v v' : Int → Int} (h : PTrials o z v) (e0 : z' o = z o) (e1 : z' (o + 1) = z (o + 1)) (ev : ∀ k, k = 13 ∨ (512 ≤ k ∧ k < 572) → v' k = v k) : PTrials o z' v' := by
  have h7 := h.1.2.2.2.1
  refine ⟨RRows_t h.1 e0 e1 (ev 13 (by omega)) (fun k hk => ev k (by omega)), fun e h0 h1 => ?_⟩
  rw [ev 13 (by omega)] at h1
  have w := h.2 e h0 h1
  simp (disch := omega) only [ev]
  exact w
theorem Mrun_t {co co' r : Int → Int} : ∀ (m : Nat) (k : Int) (p : Int → Int) (n : Int) (p' : Int → Int) (n' : Int), (∀ i, k ≤ i → i < k + m → co' i = co i) → Mrun co r m k p n p' n' → Mrun co' r m k p n p' n' := by
  intro m
  induction m with
  | zero => intro k p n p' n' _ h; exact h
  | succ m ih =>
    intro k p n p' n' he h
    obtain ⟨h1, h2, h3⟩ := h
    have e := he k (by omega) (by omega)
    refine ⟨by rw [e]; exact h1, h2, ?_⟩
    rw [e]
    exact ih (k + 1) _ _ _ _ (fun i i0 i1 => he i (by omega) (by omega)) h3
theorem Crun_t {co co' r : Int → Int} : ∀ (m : Nat) (k s s' : Int), (∀ i, k ≤ i → i < k + m → co' i = co i) → Crun co r m k s s' → Crun co' r m k s s' := by
  intro m
  induction m with
  | zero => intro k s s' _ h; exact h
  | succ m ih =>
    intro k s s' he h
    obtain ⟨h1, h2, h3⟩ := h
    have e := he k (by omega) (by omega)
    refine ⟨by rw [e]; exact h1, h2, ?_⟩
    rw [e]
    exact ih (k + 1) _ _ (fun i i0 i1 => he i (by omega) (by omega)) h3
theorem Den_t {cc mc cc' mc' : Int → Int} {a b ma mb : Int} {B : (Int → Int) → Int} {D : Nat} (h : Den cc mc a b ma mb B D) (e1 : ∀ i, a ≤ i → i < b → cc' i = cc i) (e2 : ∀ i, ma ≤ i → i < mb → mc' i = mc i) : Den cc' mc' a b ma mb B D := by
  obtain ⟨h1, h2, h3, h4, h5⟩ := h
  refine ⟨h1, h2, h3, fun r s s0 s1 => Crun_t _ _ _ _ (fun i i0 i1 => e1 i i0 (by omega)) (h4 r s s0 s1), fun r p n n0 n1 hp => ?_⟩
  obtain ⟨p', w1, w2⟩ := h5 r p n n0 n1 hp
  exact ⟨p', Mrun_t _ _ _ _ _ _ (fun i i0 i1 => e2 i i0 (by omega)) w1, w2⟩
theorem PHands_t {o : Nat} {z z' : zH} {v v' : Int → Int} (h : PHands o z v) (e0 : z' o = z o) (e1 : z' (o + 1) = z (o + 1)) (e2 : z' (o + 2) = z (o + 2)) (e3 : z' (o + 3) = z (o + 3)) (ev : ∀ k, k = 10 ∨ (296 ≤ k ∧ k < 483) → v' k = v k) : PHands o z' v' := by
  obtain ⟨a, b, c⟩ := h
  refine ⟨by rw [e0, ev 10 (by omega)]; exact a, by rw [ev 10 (by omega)]; exact b, fun i h0 h1 => ?_⟩
  rw [ev 10 (by omega)] at h1
  obtain ⟨c1, c2, B, c3⟩ := c i h0 h1
  have hb := c3.2.1
  rw [e1, e2, e3, ev (296 + 3 * i) (by omega), ev (297 + 3 * i) (by omega), ev (298 + 3 * i) (by omega)]
  exact ⟨c1, c2, B, Den_t c3 (fun _ _ _ => rfl) (fun k k0 k1 => ev _ (by omega))⟩
theorem PWorld_t {o : Nat} {z z' : zH} {v v' : Int → Int} (h : PWorld o z v) (e : ∀ i, 1 ≤ i → i < 22 → z' (o + i) = z (o + i)) (ev : ∀ k, 0 ≤ k ∧ k < 572 → v' k = v k) : PWorld o z' v' := by
  obtain ⟨h1, h2, h3, h4, h5, h6, h7, h8, h9⟩ := h
  refine ⟨PLand_t h1 (e 1 ?_ ?_) (e 2 ?_ ?_) (e 3 ?_ ?_) (e 4 ?_ ?_) (fun k hk => ev k ?_), PCraft_t h2 (e 5 ?_ ?_) (fun k hk => ev k ?_), PEnds_t h3 (e 6 ?_ ?_) (e 7 ?_ ?_) (fun k hk => ev k ?_), PPlans_t h4 (e 8 ?_ ?_) (e 9 ?_ ?_) (fun k hk => ev k ?_), PScenes_t h5 (e 10 ?_ ?_) (e 11 ?_ ?_) (fun k hk => ev k ?_), PHands_t h6 (e 12 ?_ ?_) (e 13 ?_ ?_) (e 14 ?_ ?_) (e 15 ?_ ?_) (fun k hk => ev k ?_), PSteps_t h7 (e 16 ?_ ?_) (e 17 ?_ ?_) (fun k hk => ev k ?_), PJobs_t h8 (e 18 ?_ ?_) (e 19 ?_ ?_) (fun k hk => ev k ?_), PTrials_t h9 (e 20 ?_ ?_) (e 21 ?_ ?_) (fun k hk => ev k ?_)⟩ <;> omega
theorem PKept_t {z z' : zH} (h : PKept z) (e0 : z' 0 2 = z 0 2) (e1 : z' 100 2 = z 100 2) (e : ∀ i, 1 ≤ i → i < 22 → z' (23 + i) = z (23 + i)) (e2 : z' 102 = z 102) : PKept z' := by
  obtain ⟨a, b, c⟩ := h
  refine ⟨by rw [e0, e1]; exact a, ?_, ?_⟩
  · have g29 : z' 29 = z 29 := e 6 (by omega) (by omega)
    have g31 : z' 31 = z 31 := e 8 (by omega) (by omega)
    have g33 : z' 33 = z 33 := e 10 (by omega) (by omega)
    have g39 : z' 39 = z 39 := e 16 (by omega) (by omega)
    have g41 : z' 41 = z 41 := e 18 (by omega) (by omega)
    have g43 : z' 43 = z 43 := e 20 (by omega) (by omega)
    rw [g29, g31, g33, g39, g41, g43]
    exact b
  · rw [e1]
    rcases c with c | ⟨c1, c2⟩
    · left; exact c
    · right
      exact ⟨c1, PWorld_t c2 e (fun k _ => by rw [e2])⟩
theorem PTape_t {z z' : zH} (h : PTape z) (e1 : z' 55 1 = z 55 1) (e2 : z' 100 4 = z 100 4) (e3 : z' 56 = z 56) (e4 : z' 103 = z 103) : PTape z' := by
  unfold PTape
  rw [e1, e2, e3, e4]
  exact h
theorem PRows_t {z z' : zH} (h : PRows z) (e1 : z' 68 = z 68) (e2 : z' 47 0 = z 47 0) (e3 : z' 47 1 = z 47 1) (e4 : z' 100 31 = z 100 31) (e5 : z' 69 = z 69) (e6 : z' 115 = z 115) : PRows z' := by
  unfold PRows
  rw [e1, e2, e3, e4, e5, e6]
  exact h
theorem PSheet_t {s : Int} {z z' : zH} (h : PSheet s z) (e1 : z' (73 + 2 * s.toNat) = z (73 + 2 * s.toNat)) (e2 : z' (74 + 2 * s.toNat) = z (74 + 2 * s.toNat)) (e3 : z' 117 s = z 117 s) (e4 : z' 118 s = z 118 s) (e5 : ∀ i, 0 ≤ i → i < 64 → z' 119 (64 * s + i) = z 119 (64 * s + i)) : PSheet s z' := by
  obtain ⟨a, b, c, d, e, f⟩ := h
  refine ⟨by rw [e1, e3]; exact a, by rw [e1, e4]; exact b, by rw [e3]; exact c, by rw [e4]; exact d, by rw [e3, e4]; exact e, fun i h0 h1 => ?_⟩
  rw [e2, e5 i h0 h1]
  exact f i h0 h1
theorem PSheets_t {z z' : zH} (h : PSheets z) (e1 : ∀ i, i < 8 → z' (73 + i) = z (73 + i)) (e3 : z' 117 = z 117) (e4 : z' 118 = z 118) (e5 : z' 119 = z 119) : PSheets z' := by
  intro s h0 h1
  refine PSheet_t (h s h0 h1) (e1 _ (by omega)) ?_ (by rw [e3]) (by rw [e4]) (fun _ _ _ => by rw [e5])
  have := e1 (1 + 2 * s.toNat) (by omega)
  rw [show 73 + (1 + 2 * s.toNat) = 74 + 2 * s.toNat by omega] at this
  exact this
theorem PShelves_t {z z' : zH} (h : PShelves z) (e1 : z' 70 = z 70) (e2 : z' 71 = z 71) (e3 : z' 120 = z 120) (e4 : z' 121 = z 121) (e5 : z' 122 = z 122) : PShelves z' := by
  unfold PShelves PShelf
  rw [e1, e2, e3, e4, e5]
  exact h
theorem PTrace_t {z z' : zH} (h : PTrace z) (e1 : z' 66 1 = z 66 1) (e2 : z' 100 40 = z 100 40) (e3 : z' 67 = z 67) (e4 : z' 123 = z 123) : PTrace z' := by
  unfold PTrace
  rw [e1, e2, e3, e4]
  exact h
/-- what may change in a call that only thinks -/
def scrO : List Nat := [45, 46, 47, 48, 49, 50, 51, 52, 53, 54, 55, 57, 58, 59, 60, 61, 62, 63, 64, 65, 66, 100, 104, 105, 106, 107, 108, 109, 112, 113, 114, 116]
theorem Inv_scr {z z' : zH} (h : Inv z) (hz' : zRR z') (f : fr scrO z z') (f2 : z' 100 2 = z 100 2) (f4 : z' 100 4 = z 100 4) (f31 : z' 100 31 = z 100 31) (f40 : z' 100 40 = z 100 40) (g1 : z' 55 1 = z 55 1) (g2 : z' 66 1 = z 66 1) (g3 : z' 47 0 = z 47 0) (g4 : z' 47 1 = z 47 1) : Inv z' := by
  obtain ⟨-, h1, h2, h3, h4, h5, h6, h7⟩ := h
  have lo : ∀ o, o < 45 → z' o = z o := by
    intro o ho
    exact f o ((by decide : ∀ o, o < 45 → scrO.elem o = false) o ho)
  have mid : ∀ o, 67 ≤ o → o < 100 → z' o = z o := by
    intro o ho ho2
    have w := (by decide : ∀ i, i < 33 → scrO.elem (67 + i) = false) (o - 67) (by omega)
    rw [show 67 + (o - 67) = o by omega] at w
    exact f o w
  refine ⟨hz', PWorld_t h1 (fun i i0 i1 => lo _ (by omega)) (fun k _ => by rw [f 101 rfl]), PKept_t h2 (by rw [lo 0 (by omega)]) f2 (fun i i0 i1 => lo _ (by omega)) (f 102 rfl), PTape_t h3 g1 f4 (f 56 rfl) (f 103 rfl), PRows_t h4 (mid 68 (by omega) (by omega)) g3 g4 f31 (mid 69 (by omega) (by omega)) (f 115 rfl), PSheets_t h5 (fun i hi => mid _ (by omega) (by omega)) (f 117 rfl) (f 118 rfl) (f 119 rfl), PShelves_t h6 (mid 70 (by omega) (by omega)) (mid 71 (by omega) (by omega)) (f 120 rfl) (f 121 rfl) (f 122 rfl), PTrace_t h7 g2 f40 (mid 67 (by omega) (by omega)) (f 123 rfl)⟩
