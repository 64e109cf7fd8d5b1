/-! PURE, part 53: search, the loop of HEIGHTS -/
theorem c_search_out (d : Nat) {v : Int → Int} (hv : ∀ k, zR (v k)) (hLd : LandI v) {c0 : crft} (ok0 : okC v c0) {z0 : zH} (hR0 : LandR z0 v) (hE0 : PEnds 7 z0 v) {g : Int} (hg : zR g) : ∀ (m : Nat) (H : Int), H + 1 = m → H ≤ 99 → ∀ (z : zH) (L : Int → List Int), zRR z → OutS v c0 z0 z L H → ∀ n, 770 * m < n → xw (r_X6_search (d + 4) n 41 [some (xR 22 50), some (xR 26 1), none, some (xI (zI g)), some (xI (zI H)), none, none, none] [] (hI z)) (fun _ z' => PostS v c0 g z0 z') := by
  have h0r : zR 0 := zR_s (by omega)
  intro m
  induction m with
  | zero =>
    intro H hm h99 z L hz h n hn
    obtain ⟨n, rfl⟩ := Nat.exists_eq_succ_of_ne_zero (show n ≠ 0 by omega)
    have e : H = -1 := by omega
    subst e
    obtain ⟨⟨s1, s2, s3⟩, c, b, f⟩ := h
    rw [l_X6_search_41]
    simp only [zLit]
    rw [if_pos (by decide)]
    exact xw_ret h0r hz ⟨s2, b, ⟨-1, Int.le_refl _, c, Or.inl rfl⟩, f⟩
  | succ m ih =>
    intro H hm h99 z L hz h n hn
    obtain ⟨n, rfl⟩ := Nat.exists_eq_succ_of_ne_zero (show n ≠ 0 by omega)
    rw [l_X6_search_41]
    simp only [zLit]
    rw [if_neg (by rw [zI_lt (zR_s (by omega)) h0r]; omega)]
    have g3 := h.1.1 H (by omega) h99
    refine c_search_in d hv hLd ok0 hR0 hE0 hg ⟨by omega, h99⟩ (770 * m + 1) (fun z L hz ho n hn => ih (H - 1) (by omega) (by omega) z L hz ho n (by omega)) 768 0 (by omega) (by omega) z L hz (Out_In (by omega) h) (nodup_len 768 _ g3.2.1 (fun q hq => (g3.2.2 q hq).1)) n (by omega)
