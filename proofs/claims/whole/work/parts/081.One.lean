/-! PURE, part 11: one piece of the world changes -/
theorem PW_Land {z z' : zH} {v v' : Int → Int} (h : PWorld 1 z v) (hx : PLand 2 z' v') (f : fr [2, 3, 4, 5, 101] z z') (ev : ∀ k, ¬ (15 ≤ k ∧ k < 152) → 0 ≤ k ∧ k < 572 → v' k = v k) : PWorld 1 z' v' := by
  obtain ⟨h1, h2, h3, h4, h5, h6, h7, h8, h9⟩ := h
  exact ⟨hx,
    PCraft_t h2 (f 6 rfl) (fun k hk => ev k (by omega) (by omega)),
    PEnds_t h3 (f 7 rfl) (f 8 rfl) (fun k hk => ev k (by omega) (by omega)),
    PPlans_t h4 (f 9 rfl) (f 10 rfl) (fun k hk => ev k (by omega) (by omega)),
    PScenes_t h5 (f 11 rfl) (f 12 rfl) (fun k hk => ev k (by omega) (by omega)),
    PHands_t h6 (f 13 rfl) (f 14 rfl) (f 15 rfl) (f 16 rfl) (fun k hk => ev k (by omega) (by omega)),
    PSteps_t h7 (f 17 rfl) (f 18 rfl) (fun k hk => ev k (by omega) (by omega)),
    PJobs_t h8 (f 19 rfl) (f 20 rfl) (fun k hk => ev k (by omega) (by omega)),
    PTrials_t h9 (f 21 rfl) (f 22 rfl) (fun k hk => ev k (by omega) (by omega))⟩
theorem PW_Craft {z z' : zH} {v v' : Int → Int} (h : PWorld 1 z v) (hx : PCraft 6 z' v') (f : fr [6, 101] z z') (ev : ∀ k, ¬ (2 ≤ k ∧ k < 7) → 0 ≤ k ∧ k < 572 → v' k = v k) : PWorld 1 z' v' := by
  obtain ⟨h1, h2, h3, h4, h5, h6, h7, h8, h9⟩ := h
  exact ⟨PLand_t h1 (f 2 rfl) (f 3 rfl) (f 4 rfl) (f 5 rfl) (fun k hk => ev k (by omega) (by omega)),
    hx,
    PEnds_t h3 (f 7 rfl) (f 8 rfl) (fun k hk => ev k (by omega) (by omega)),
    PPlans_t h4 (f 9 rfl) (f 10 rfl) (fun k hk => ev k (by omega) (by omega)),
    PScenes_t h5 (f 11 rfl) (f 12 rfl) (fun k hk => ev k (by omega) (by omega)),
    PHands_t h6 (f 13 rfl) (f 14 rfl) (f 15 rfl) (f 16 rfl) (fun k hk => ev k (by omega) (by omega)),
    PSteps_t h7 (f 17 rfl) (f 18 rfl) (fun k hk => ev k (by omega) (by omega)),
    PJobs_t h8 (f 19 rfl) (f 20 rfl) (fun k hk => ev k (by omega) (by omega)),
    PTrials_t h9 (f 21 rfl) (f 22 rfl) (fun k hk => ev k (by omega) (by omega))⟩
theorem PW_Ends {z z' : zH} {v v' : Int → Int} (h : PWorld 1 z v) (hx : PEnds 7 z' v') (f : fr [7, 8, 101] z z') (ev : ∀ k, ¬ (k = 7 ∨ (152 ≤ k ∧ k < 192)) → 0 ≤ k ∧ k < 572 → v' k = v k) : PWorld 1 z' v' := by
  obtain ⟨h1, h2, h3, h4, h5, h6, h7, h8, h9⟩ := h
  exact ⟨PLand_t h1 (f 2 rfl) (f 3 rfl) (f 4 rfl) (f 5 rfl) (fun k hk => ev k (by omega) (by omega)),
    PCraft_t h2 (f 6 rfl) (fun k hk => ev k (by omega) (by omega)),
    hx,
    PPlans_t h4 (f 9 rfl) (f 10 rfl) (fun k hk => ev k (by omega) (by omega)),
    PScenes_t h5 (f 11 rfl) (f 12 rfl) (fun k hk => ev k (by omega) (by omega)),
    PHands_t h6 (f 13 rfl) (f 14 rfl) (f 15 rfl) (f 16 rfl) (fun k hk => ev k (by omega) (by omega)),
    PSteps_t h7 (f 17 rfl) (f 18 rfl) (fun k hk => ev k (by omega) (by omega)),
    PJobs_t h8 (f 19 rfl) (f 20 rfl) (fun k hk => ev k (by omega) (by omega)),
    PTrials_t h9 (f 21 rfl) (f 22 rfl) (fun k hk => ev k (by omega) (by omega))⟩
theorem PW_Plans {z z' : zH} {v v' : Int → Int} (h : PWorld 1 z v) (hx : PPlans 9 z' v') (f : fr [9, 10, 101] z z') (ev : ∀ k, ¬ (k = 8 ∨ (192 ≤ k ∧ k < 276)) → 0 ≤ k ∧ k < 572 → v' k = v k) : PWorld 1 z' v' := by
  obtain ⟨h1, h2, h3, h4, h5, h6, h7, h8, h9⟩ := h
  exact ⟨PLand_t h1 (f 2 rfl) (f 3 rfl) (f 4 rfl) (f 5 rfl) (fun k hk => ev k (by omega) (by omega)),
    PCraft_t h2 (f 6 rfl) (fun k hk => ev k (by omega) (by omega)),
    PEnds_t h3 (f 7 rfl) (f 8 rfl) (fun k hk => ev k (by omega) (by omega)),
    hx,
    PScenes_t h5 (f 11 rfl) (f 12 rfl) (fun k hk => ev k (by omega) (by omega)),
    PHands_t h6 (f 13 rfl) (f 14 rfl) (f 15 rfl) (f 16 rfl) (fun k hk => ev k (by omega) (by omega)),
    PSteps_t h7 (f 17 rfl) (f 18 rfl) (fun k hk => ev k (by omega) (by omega)),
    PJobs_t h8 (f 19 rfl) (f 20 rfl) (fun k hk => ev k (by omega) (by omega)),
    PTrials_t h9 (f 21 rfl) (f 22 rfl) (fun k hk => ev k (by omega) (by omega))⟩
theorem PW_Scenes {z z' : zH} {v v' : Int → Int} (h : PWorld 1 z v) (hx : PScenes 11 z' v') (f : fr [11, 12, 101] z z') (ev : ∀ k, ¬ (k = 9 ∨ (276 ≤ k ∧ k < 296)) → 0 ≤ k ∧ k < 572 → v' k = v k) : PWorld 1 z' v' := by
  obtain ⟨h1, h2, h3, h4, h5, h6, h7, h8, h9⟩ := h
  exact ⟨PLand_t h1 (f 2 rfl) (f 3 rfl) (f 4 rfl) (f 5 rfl) (fun k hk => ev k (by omega) (by omega)),
    PCraft_t h2 (f 6 rfl) (fun k hk => ev k (by omega) (by omega)),
    PEnds_t h3 (f 7 rfl) (f 8 rfl) (fun k hk => ev k (by omega) (by omega)),
    PPlans_t h4 (f 9 rfl) (f 10 rfl) (fun k hk => ev k (by omega) (by omega)),
    hx,
    PHands_t h6 (f 13 rfl) (f 14 rfl) (f 15 rfl) (f 16 rfl) (fun k hk => ev k (by omega) (by omega)),
    PSteps_t h7 (f 17 rfl) (f 18 rfl) (fun k hk => ev k (by omega) (by omega)),
    PJobs_t h8 (f 19 rfl) (f 20 rfl) (fun k hk => ev k (by omega) (by omega)),
    PTrials_t h9 (f 21 rfl) (f 22 rfl) (fun k hk => ev k (by omega) (by omega))⟩
theorem PW_Hands {z z' : zH} {v v' : Int → Int} (h : PWorld 1 z v) (hx : PHands 13 z' v') (f : fr [13, 14, 15, 16, 101] z z') (ev : ∀ k, ¬ (k = 10 ∨ k = 14 ∨ (296 ≤ k ∧ k < 483)) → 0 ≤ k ∧ k < 572 → v' k = v k) : PWorld 1 z' v' := by
  obtain ⟨h1, h2, h3, h4, h5, h6, h7, h8, h9⟩ := h
  exact ⟨PLand_t h1 (f 2 rfl) (f 3 rfl) (f 4 rfl) (f 5 rfl) (fun k hk => ev k (by omega) (by omega)),
    PCraft_t h2 (f 6 rfl) (fun k hk => ev k (by omega) (by omega)),
    PEnds_t h3 (f 7 rfl) (f 8 rfl) (fun k hk => ev k (by omega) (by omega)),
    PPlans_t h4 (f 9 rfl) (f 10 rfl) (fun k hk => ev k (by omega) (by omega)),
    PScenes_t h5 (f 11 rfl) (f 12 rfl) (fun k hk => ev k (by omega) (by omega)),
    hx,
    PSteps_t h7 (f 17 rfl) (f 18 rfl) (fun k hk => ev k (by omega) (by omega)),
    PJobs_t h8 (f 19 rfl) (f 20 rfl) (fun k hk => ev k (by omega) (by omega)),
    PTrials_t h9 (f 21 rfl) (f 22 rfl) (fun k hk => ev k (by omega) (by omega))⟩
theorem PW_Steps {z z' : zH} {v v' : Int → Int} (h : PWorld 1 z v) (hx : PSteps 17 z' v') (f : fr [17, 18, 101] z z') (ev : ∀ k, ¬ (k = 11 ∨ (483 ≤ k ∧ k < 504)) → 0 ≤ k ∧ k < 572 → v' k = v k) : PWorld 1 z' v' := by
  obtain ⟨h1, h2, h3, h4, h5, h6, h7, h8, h9⟩ := h
  exact ⟨PLand_t h1 (f 2 rfl) (f 3 rfl) (f 4 rfl) (f 5 rfl) (fun k hk => ev k (by omega) (by omega)),
    PCraft_t h2 (f 6 rfl) (fun k hk => ev k (by omega) (by omega)),
    PEnds_t h3 (f 7 rfl) (f 8 rfl) (fun k hk => ev k (by omega) (by omega)),
    PPlans_t h4 (f 9 rfl) (f 10 rfl) (fun k hk => ev k (by omega) (by omega)),
    PScenes_t h5 (f 11 rfl) (f 12 rfl) (fun k hk => ev k (by omega) (by omega)),
    PHands_t h6 (f 13 rfl) (f 14 rfl) (f 15 rfl) (f 16 rfl) (fun k hk => ev k (by omega) (by omega)),
    hx,
    PJobs_t h8 (f 19 rfl) (f 20 rfl) (fun k hk => ev k (by omega) (by omega)),
    PTrials_t h9 (f 21 rfl) (f 22 rfl) (fun k hk => ev k (by omega) (by omega))⟩
theorem PW_Jobs {z z' : zH} {v v' : Int → Int} (h : PWorld 1 z v) (hx : PJobs 19 z' v') (f : fr [19, 20, 101] z z') (ev : ∀ k, ¬ (k = 12 ∨ (504 ≤ k ∧ k < 512)) → 0 ≤ k ∧ k < 572 → v' k = v k) : PWorld 1 z' v' := by
  obtain ⟨h1, h2, h3, h4, h5, h6, h7, h8, h9⟩ := h
  exact ⟨PLand_t h1 (f 2 rfl) (f 3 rfl) (f 4 rfl) (f 5 rfl) (fun k hk => ev k (by omega) (by omega)),
    PCraft_t h2 (f 6 rfl) (fun k hk => ev k (by omega) (by omega)),
    PEnds_t h3 (f 7 rfl) (f 8 rfl) (fun k hk => ev k (by omega) (by omega)),
    PPlans_t h4 (f 9 rfl) (f 10 rfl) (fun k hk => ev k (by omega) (by omega)),
    PScenes_t h5 (f 11 rfl) (f 12 rfl) (fun k hk => ev k (by omega) (by omega)),
    PHands_t h6 (f 13 rfl) (f 14 rfl) (f 15 rfl) (f 16 rfl) (fun k hk => ev k (by omega) (by omega)),
    PSteps_t h7 (f 17 rfl) (f 18 rfl) (fun k hk => ev k (by omega) (by omega)),
    hx,
    PTrials_t h9 (f 21 rfl) (f 22 rfl) (fun k hk => ev k (by omega) (by omega))⟩
theorem PW_Trials {z z' : zH} {v v' : Int → Int} (h : PWorld 1 z v) (hx : PTrials 21 z' v') (f : fr [21, 22, 101] z z') (ev : ∀ k, ¬ (k = 13 ∨ (512 ≤ k ∧ k < 572)) → 0 ≤ k ∧ k < 572 → v' k = v k) : PWorld 1 z' v' := by
  obtain ⟨h1, h2, h3, h4, h5, h6, h7, h8, h9⟩ := h
  exact ⟨PLand_t h1 (f 2 rfl) (f 3 rfl) (f 4 rfl) (f 5 rfl) (fun k hk => ev k (by omega) (by omega)),
    PCraft_t h2 (f 6 rfl) (fun k hk => ev k (by omega) (by omega)),
    PEnds_t h3 (f 7 rfl) (f 8 rfl) (fun k hk => ev k (by omega) (by omega)),
    PPlans_t h4 (f 9 rfl) (f 10 rfl) (fun k hk => ev k (by omega) (by omega)),
    PScenes_t h5 (f 11 rfl) (f 12 rfl) (fun k hk => ev k (by omega) (by omega)),
    PHands_t h6 (f 13 rfl) (f 14 rfl) (f 15 rfl) (f 16 rfl) (fun k hk => ev k (by omega) (by omega)),
    PSteps_t h7 (f 17 rfl) (f 18 rfl) (fun k hk => ev k (by omega) (by omega)),
    PJobs_t h8 (f 19 rfl) (f 20 rfl) (fun k hk => ev k (by omega) (by omega)),
    hx⟩
def nowO : List Nat := [2, 3, 4, 5, 6, 7, 8, 9, 10, 11, 12, 13, 14, 15, 16, 17, 18, 19, 20, 21, 22, 101]
theorem Inv_now {z z' : zH} (h : Inv z) (hz' : zRR z') (hw : PWorld 1 z' (z' 101)) (f : fr nowO z z') : Inv z' := by
  obtain ⟨-, -, h2, h3, h4, h5, h6, h7⟩ := h
  have mid : ∀ o, 23 ≤ o → o < 100 → z' o = z o := by
    intro o ho ho2
    have w := (by decide : ∀ i, i < 77 → nowO.elem (23 + i) = false) (o - 23) (by omega)
    rw [show 23 + (o - 23) = o by omega] at w
    exact f o w
  refine ⟨hz', hw, PKept_t h2 (by rw [f 0 rfl]) (by rw [f 100 rfl]) (fun i i0 i1 => mid _ (by omega) (by omega)) (f 102 rfl), PTape_t h3 (by rw [mid 55 (by omega) (by omega)]) (by rw [f 100 rfl]) (mid 56 (by omega) (by omega)) (f 103 rfl), PRows_t h4 (mid 68 (by omega) (by omega)) (by rw [mid 47 (by omega) (by omega)]) (by rw [mid 47 (by omega) (by omega)]) (by rw [f 100 rfl]) (mid 69 (by omega) (by omega)) (f 115 rfl), PSheets_t h5 (fun i hi => mid _ (by omega) (by omega)) (f 117 rfl) (f 118 rfl) (f 119 rfl), PShelves_t h6 (mid 70 (by omega) (by omega)) (mid 71 (by omega) (by omega)) (f 120 rfl) (f 121 rfl) (f 122 rfl), PTrace_t h7 (by rw [mid 66 (by omega) (by omega)]) (by rw [f 100 rfl]) (mid 67 (by omega) (by omega)) (f 123 rfl)⟩
