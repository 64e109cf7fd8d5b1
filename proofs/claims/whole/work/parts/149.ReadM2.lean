/-! PURE, part 79: the model reads a text, whole -/
theorem PreM_112 {T : Int → Int} {n : Int} {m : Nat} {z : zH} {i : Nat} {q dp : Int} (h : PreM T n m z i q dp) (k v : Int) (hv : zR v) : PreM T n m (zup z 112 k v) i q dp := by
  obtain ⟨h1, h2, h3, h4, h5, h6, h7, h8, h9⟩ := h
  have e : zup z 112 k v 100 = z 100 := zup_ne _ _ _ (by decide)
  refine ⟨zRR_up h1 _ _ hv, MT_t h2 (by rw [e]) (zup_ne _ _ _ (by decide)), ?_, by rw [e]; exact h4, h5, by rw [e]; exact h6, h7, h8, by rw [e]; exact h9⟩
  unfold MV
  rw [e]
  exact h3
theorem m_read_l (d : Nat) {T : Int → Int} {n : Int} {m : Nat} (hT : tpB T n) (hk : Tks T n m) {z0 : zH} : ∀ (g i c : Nat) (L : LnT) (q : Int) (z : zH), c + g = 9 → PreM T n m z i q 0 → z 100 25 = c → LCm z c L q → FRd z0 z → ∀ N, 2 * g + 310 < N → xw (r_X12_read (d + 22) N 29 [some (xR 28 100), none, none] [] (hI z)) (PRd T n z0 (rdL (Kk T n) (Ww T n) g i L c)) := by
  have h0r : zR 0 := zR_s (by omega)
  have n10 : ¬ zI 1 = zI 0 := by decide
  have O := Tks_O hk
  have nb := fun i => stN_b (T := T) hk.1.1 i
  have n240 := hk.1.2
  have rs : ∀ i : Nat, zR (-100 - stN T n i) := fun i => by have := nb i; exact zR_s (by omega)
  have ks : ∀ i, so T n (stN T n i) = 0 ↔ Kk T n i = 0 := by
    intro i
    show so T n (stN T n i) = 0 ↔ kd T n (stN T n i) = 0
    unfold kd so
    split
    · simp
    · split
      · simp
      · split
        · split <;> simp
        · simp
  have sob : ∀ i, 0 ≤ so T n (stN T n i) ∧ so T n (stN T n i) ≤ 3 := fun i => by unfold so; split; omega; split; omega; split <;> omega
  intro g
  induction g with
  | zero =>
    intro i c L q z hc hP h25 hL hF N hN
    obtain ⟨N, rfl⟩ := Nat.exists_eq_succ_of_ne_zero (show N ≠ 0 by omega)
    obtain ⟨h1, h2, h3, h4, h5, h6, h7, h8, h9⟩ := hP
    obtain ⟨v1, v2, v3⟩ := h3
    have bi := nb i
    rw [l_X12_read_29]
    simp only [zLit, hI_fs, h4, v3, h25, if_true, hI_us]
    unfold rdL
    by_cases y : Kk T n i = 0
    · rw [if_pos (by rw [(ks i).mpr y]), decide_eq_true y]
      exact m_rdOk (d + 22) n240 h1 hF h25 h6 hL ⟨h7, by omega⟩ (by omega) N (by omega)
    · rw [if_neg (by rw [zI_eq (zR_s (by have := sob i; omega)) h0r]; exact fun x => y ((ks i).mp x)), if_pos (by rw [show (c : Int) = 9 by omega]), decide_eq_false y]
      have m0 := fun d => m_need0 d h4
      have e22 : zup z 100 22 1 100 22 = 1 := by rw [zup_at, if_pos ⟨rfl, rfl⟩]
      have e19 : zup z 100 22 1 100 19 = stN T n i := by rw [zup_at, if_neg (by omega)]; exact v1
      obtain ⟨N, rfl⟩ := Nat.exists_eq_succ_of_ne_zero (show N ≠ 0 by omega)
      simp only [m0, xbd_n, hI_fs, e22, if_neg n10]
      rw [m_rdX (d + 22) N e22 e19]
      exact xw_ret (rs i) (zRR_up (zRR_up h1 _ _ (zR_s (by omega))) _ _ h0r) (PRd_X ⟨fr_up hF.1 _ _ rfl, ff_up hF.2 _ rfl⟩)
  | succ g ih =>
    intro i c L q z hc hP h25 hL hF N hN
    obtain ⟨N, rfl⟩ := Nat.exists_eq_succ_of_ne_zero (show N ≠ 0 by omega)
    have hP0 := hP
    obtain ⟨h1, h2, h3, h4, h5, h6, h7, h8, h9⟩ := hP
    have h30 := h3
    obtain ⟨v1, v2, v3⟩ := h3
    have bi := nb i
    have qr : zR q := zR_s (by omega)
    rw [l_X12_read_29]
    simp only [zLit, hI_fs, h4, v3, h25, if_true, hI_us]
    unfold rdL
    by_cases y : Kk T n i = 0
    · rw [if_pos (by rw [(ks i).mpr y]), if_pos y]
      exact m_rdOk (d + 22) n240 h1 hF h25 h6 hL ⟨h7, by omega⟩ (by omega) N (by omega)
    · rw [if_neg (by rw [zI_eq (zR_s (by have := sob i; omega)) h0r]; exact fun x => y ((ks i).mp x)), if_neg (by rw [zI_eq (zR_s (by omega)) (zR_s (by omega))]; omega), if_neg y]
      have nm := fun d => m_nameDo d h1 hT h2 (p := stN T n i) bi h30 h4
      simp only [nm, xbd_n]
      -- a fault with which the loop ends
      have bad : ∀ (z' : zH) (i' : Nat), zRR z' → FRd z0 z' → z' 100 22 = 1 → z' 100 19 = stN T n i' → pLine (Kk T n) (Ww T n) i = (false, i', [], []) → xw (r_X12_read (d + 22) N 29 [some (xR 28 100), none, none] [] (hI z')) (PRd T n z0 (if (pLine (Kk T n) (Ww T n) i).1 = true then rdL (Kk T n) (Ww T n) g (pLine (Kk T n) (Ww T n) i).2.1 (LnPut L c (Ww T n i, (pLine (Kk T n) (Ww T n) i).2.2)) (c + 1) else (false, (pLine (Kk T n) (Ww T n) i).2.1, L, c))) := by
        intro z' i' hz' hF' e22 e19 el
        obtain ⟨N, rfl⟩ := Nat.exists_eq_succ_of_ne_zero (show N ≠ 0 by omega)
        rw [m_rdX (d + 22) N e22 e19, el, if_neg (show ¬ ((false : Bool) = true) from Bool.false_ne_true)]
        exact xw_ret (rs i') (zRR_up hz' _ _ h0r) (PRd_X hF')
      by_cases w : Kk T n i = 1 ∧ Ww T n i ≤ 3
      · have w0 := Ww_0 i w.1
        have en : nmO T n (stN T n i) 0 4 = Ww T n i := by
          unfold nmO
          rw [if_pos ⟨w.1, w0, by have := w.2; show wt T n (stN T n i) < 0 + 4; have e : Ww T n i = wt T n (stN T n i) := rfl; omega⟩]
          show wt T n (stN T n i) - 0 = wt T n (stN T n i)
          omega
        have wr : zR (Ww T n i) := zR_s (by omega)
        rw [en, if_neg (by rw [zI_lt wr h0r]; omega)]
        refine xw_k (m_need1 (d + 18) hT hk hP0 y) ?_
        intro r1 z1 _ hz1 ⟨P1, F1, e113⟩
        have x22 := P1.2.2.2.1
        have x24 := P1.2.2.2.2.2.1
        have x25 : z1 100 25 = c := by rw [F1.2.1 25 rfl]; exact h25
        have l112 : lenX 112 = 27 := by decide +kernel
        have r3c : zR (3 * (c : Int)) := zR_s (by omega)
        have r3c1 : zR (3 * (c : Int) + 1) := zR_s (by omega)
        have r3c2 : zR (3 * (c : Int) + 2) := zR_s (by omega)
        have b0 := bnd (a := 3 * (c : Int)) (n := 27) (by omega) (by omega) (by omega)
        have b1 := bnd (a := 3 * (c : Int) + 1) (n := 27) (by omega) (by omega) (by omega)
        have b2 := bnd (a := 3 * (c : Int) + 2) (n := 27) (by omega) (by omega) (by omega)
        simp only [hI_fs, x22, x24, x25, if_true, l112, zI_mul, zI_add, if_neg b0, if_neg b1]
        simp only [zI_nat r3c, zI_nat r3c1, zst (show (0 : Int) ≤ 3 * (c : Int) by omega)]
        have P2 := PreM_112 (PreM_112 P1 (3 * (c : Int)) (Ww T n i) wr) (3 * (c : Int) + 1) q qr
        simp only [zst (show (0 : Int) ≤ 3 * (c : Int) + 1 by omega)]
        obtain ⟨z2, hz2e⟩ : ∃ z2, z2 = zup (zup z1 112 (3 * (c : Int)) (Ww T n i)) 112 (3 * (c : Int) + 1) q := ⟨_, rfl⟩
        rw [← hz2e] at P2 ⊢
        have F12 : FRd z0 z2 := by
          rw [hz2e]
          have := FRd_tr hF (FM_Rd F1)
          exact ⟨fr_up (fr_up this.1 _ _ rfl) _ _ rfl, ff_ne (ff_ne this.2 _ _ (by decide)) _ _ (by decide)⟩
        have y25 : z2 100 25 = c := by rw [hz2e, zup_ne _ _ _ (by decide), zup_ne _ _ _ (by decide)]; exact x25
        have mw := fun d => m_isWord d P2.1 hT P2.2.1 (o := 12) ⟨by omega, by omega⟩ (nb (i + 1)) P2.2.2.1 P2.2.2.2.1
        rw [show ((xnd 99 wdO 12 : Nat) : Int) = 4 from by decide +kernel] at mw
        simp only [mw, xbd_n]
        by_cases u : wdA (Kk T n) (Ww T n) (i + 1) 4
        · rw [← zB_t (show isW T n (stN T n (i + 1)) 4 from u)]
          refine xw_k (m_need1 (d + 18) hT hk P2 (by have := u.1; omega)) ?_
          intro r3 z3 _ hz3 ⟨P3, F3, e113'⟩
          have ei := m_eitherG hT hk 4 d (by omega) z3 (i + 2) q P3
          refine xw_k ei ?_
          intro r4 z4 _ hz4 hp
          have hp0 := hp
          have pb := PB_cond O (PB_bro O 4) (i := i + 2) P3.2.2.2.2.1
          obtain ⟨p1, p2, p3, p4⟩ := hp
          have FR4 := FRd_tr F12 (FRd_tr (FM_Rd F3) (FM_Rd p4))
          have z25 : z4 100 25 = c := by rw [p4.2.1 25 rfl, F3.2.1 25 rfl]; exact y25
          have el : pLine (Kk T n) (Ww T n) i = if (pCond (Kk T n) (Ww T n) (bro (Kk T n) (Ww T n) 4) (i + 2)).1 = true then (if sgA (Kk T n) (Ww T n) (pCond (Kk T n) (Ww T n) (bro (Kk T n) (Ww T n) 4) (i + 2)).2.1 59 then (true, (pCond (Kk T n) (Ww T n) (bro (Kk T n) (Ww T n) 4) (i + 2)).2.1 + 1, (pCond (Kk T n) (Ww T n) (bro (Kk T n) (Ww T n) 4) (i + 2)).2.2) else (false, (pCond (Kk T n) (Ww T n) (bro (Kk T n) (Ww T n) 4) (i + 2)).2.1, [], [])) else (false, (pCond (Kk T n) (Ww T n) (bro (Kk T n) (Ww T n) 4) (i + 2)).2.1, [], []) := by
            unfold pLine
            rw [if_pos w, if_pos u]
          generalize pCond (Kk T n) (Ww T n) (bro (Kk T n) (Ww T n) 4) (i + 2) = R at *
          simp only [hI_fs, z25, zI_mul, zI_add, l112, if_neg b2]
          simp only [zI_nat r3c2, zst (show (0 : Int) ≤ 3 * (c : Int) + 2 by omega)]
          have c4r : zR (z4 100 24) := hz4 _ _
          obtain ⟨z5, hz5e⟩ : ∃ z5, z5 = zup z4 112 (3 * (c : Int) + 2) (z4 100 24) := ⟨_, rfl⟩
          rw [← hz5e]
          have hz5 : zRR z5 := by rw [hz5e]; exact zRR_up hz4 _ _ c4r
          have FR5 : FRd z0 z5 := by rw [hz5e]; exact ⟨fr_up FR4.1 _ _ rfl, ff_ne FR4.2 _ _ (by decide)⟩
          have e5 : z5 100 = z4 100 := by rw [hz5e]; exact zup_ne _ _ _ (by decide)
          by_cases x : R.1 = true
          · have P4 := PreM_p P3 hp0 pb x hz4
            have P5 : PreM T n m z5 R.2.1 (q + R.2.2.2.length) 0 := by rw [hz5e]; exact PreM_112 P4 _ _ c4r
            obtain ⟨a1, a2, a3, a4⟩ := p1 x
            rw [if_pos x] at el
            have ms := fun d => m_isSign d hz5 hT P5.2.1 (nb R.2.1) P5.2.2.1 P5.2.2.2.1 (c := 59) (by omega)
            simp only [ms, xbd_n]
            by_cases t : sgA (Kk T n) (Ww T n) R.2.1 59
            · rw [if_pos t] at el
              rw [← zB_t (show isS T n (stN T n R.2.1) 59 from t)]
              refine xw_k (m_need1 (d + 18) hT hk P5 (by have := t.1; omega)) ?_
              intro r6 z6 _ hz6 ⟨P6, F6, e113''⟩
              have w25 : z6 100 25 = c := by rw [F6.2.1 25 rfl, e5]; exact z25
              simp only [hI_fs, w25, zI_add, hI_us]
              rw [el, if_pos rfl]
              have FR6 := FRd_tr FR5 (FM_Rd F6)
              have k112 : ∀ k : Int, z6 112 k = if k = 3 * (c : Int) + 2 then q + R.2.2.2.length else if k = 3 * (c : Int) + 1 then q else if k = 3 * (c : Int) then Ww T n i else z 112 k := by
                intro k
                rw [F6.1 112 rfl, hz5e, zup_at]
                by_cases s2 : k = 3 * (c : Int) + 2
                · rw [if_pos ⟨rfl, s2⟩, if_pos s2]; exact a3
                · rw [if_neg (fun x => s2 x.2), if_neg s2, p4.1 112 rfl, F3.1 112 rfl, hz2e, zup_at]
                  by_cases s1 : k = 3 * (c : Int) + 1
                  · rw [if_pos ⟨rfl, s1⟩, if_pos s1]
                  · rw [if_neg (fun x => s1 x.2), if_neg s1, zup_at]
                    by_cases s0 : k = 3 * (c : Int)
                    · rw [if_pos ⟨rfl, s0⟩, if_pos s0]
                    · rw [if_neg (fun x => s0 x.2), if_neg s0, F1.1 112 rfl]
              have k113 : z6 113 = z4 113 := by rw [e113'', hz5e]; exact zup_ne _ _ _ (by decide)
              have lo113 : ∀ j, j < q → z4 113 j = z 113 j := by
                intro j hj
                rw [p4.2.2 j hj, e113', hz2e, zup_ne _ _ _ (by decide), zup_ne _ _ _ (by decide), e113]
              obtain ⟨g1, g2, g3, g4, g5, g6, g7, g8, g9⟩ := P6
              have e6 : ∀ k, k ≠ 25 → zup z6 100 25 ((c : Int) + 1) 100 k = z6 100 k := fun k hk => by rw [zup_at, if_neg (fun x => hk x.2)]
              refine ih _ (c + 1) _ _ (zup z6 100 25 ((c : Int) + 1)) (by omega) ⟨zRR_up g1 _ _ (zR_s (by omega)), MT_t g2 (e6 4 (by omega)) (zup_ne _ _ _ (by decide)), ?_, by rw [e6 22 (by omega)]; exact g4, g5, by rw [e6 24 (by omega)]; exact g6, g7, g8, by rw [e6 23 (by omega)]; exact g9⟩ ?_ ?_ ⟨fr_up FR6.1 _ _ rfl, ff_up FR6.2 _ rfl⟩ N (by omega)
              · unfold MV
                rw [e6 19 (by omega), e6 20 (by omega), e6 21 (by omega)]
                exact g3
              · rw [zup_at, if_pos ⟨rfl, rfl⟩]; omega
              · intro k hk
                rw [zup_ne _ _ _ (by decide), zup_ne _ _ _ (by decide), k112, k112, k112, k113]
                by_cases e : k = c
                · subst e
                  have hl : LnPut L k (Ww T n i, R.2.2) (k : Int) = (Ww T n i, R.2.2) := by unfold LnPut; rw [if_pos rfl]
                  rw [hl, if_neg (by omega), if_neg (by omega), if_pos rfl, if_neg (by omega), if_pos rfl, if_pos rfl]
                  exact ⟨rfl, a4, rfl, h7, Int.le_refl _⟩
                · have hl : LnPut L c (Ww T n i, R.2.2) (k : Int) = L k := by unfold LnPut; rw [if_neg (by omega)]
                  obtain ⟨b1, b2, b3, b4, b5⟩ := hL k (by omega)
                  rw [hl, if_neg (by omega), if_neg (by omega), if_neg (by omega), if_neg (by omega), if_neg (by omega), if_neg (by omega), if_neg (by omega), if_neg (by omega), if_neg (by omega)]
                  exact ⟨b1, has_t _ _ (fun j j0 j1 => lo113 j (by omega)) b2, b3, b4, by omega⟩
            · rw [if_neg t] at el
              rw [← zB_f (show ¬ isS T n (stN T n R.2.1) 59 from t)]
              have m0 := fun d => m_need0 d P5.2.2.2.1
              simp only [m0, xbd_n]
              have w25 : zup z5 100 22 1 100 25 = c := by rw [zup_at, if_neg (by omega), e5]; exact z25
              simp only [hI_fs, w25, zI_add, hI_us]
              refine bad _ R.2.1 (zRR_up (zRR_up hz5 _ _ (zR_s (by omega))) _ _ (zR_s (by omega))) ⟨fr_up (fr_up FR5.1 _ _ rfl) _ _ rfl, ff_up (ff_up FR5.2 _ rfl) _ rfl⟩ ?_ ?_ el
              · rw [zup_at, if_neg (by omega), zup_at, if_pos ⟨rfl, rfl⟩]
              · rw [zup_at, if_neg (by omega), zup_at, if_neg (by omega)]; exact P5.2.2.1.1
          · rw [if_neg x] at el
            obtain ⟨f1, f2⟩ := p2 x
            have f22 : z5 100 22 = 1 := by rw [e5]; exact f1
            have f25 : z5 100 25 = c := by rw [e5]; exact z25
            have sf := fun d c => m_isSignF d (z := z5) (c := c) f22
            have df := fun d x => m_needF d (z := z5) (x := x) f22
            simp only [sf, df, xbd_n, hI_fs, f25, zI_add, hI_us]
            refine bad _ R.2.1 (zRR_up hz5 _ _ (zR_s (by omega))) ⟨fr_up FR5.1 _ _ rfl, ff_up FR5.2 _ rfl⟩ ?_ ?_ el
            · rw [zup_at, if_neg (by omega)]; exact f22
            · rw [zup_at, if_neg (by omega), e5]; exact f2
        · rw [← zB_f (show ¬ isW T n (stN T n (i + 1)) 4 from u)]
          have el : pLine (Kk T n) (Ww T n) i = (false, i + 1, [], []) := by
            unfold pLine
            rw [if_pos w, if_neg u]
          have m0 := fun d => m_need0 d P2.2.2.2.1
          simp only [m0, xbd_n]
          obtain ⟨z3, hz3e⟩ : ∃ z3, z3 = zup z2 100 22 1 := ⟨_, rfl⟩
          rw [← hz3e]
          have hz3 : zRR z3 := by rw [hz3e]; exact zRR_up P2.1 _ _ (zR_s (by omega))
          have f22 : z3 100 22 = 1 := by rw [hz3e, zup_at, if_pos ⟨rfl, rfl⟩]
          have f25 : z3 100 25 = c := by rw [hz3e, zup_at, if_neg (by omega)]; exact y25
          have f19 : z3 100 19 = stN T n (i + 1) := by rw [hz3e, zup_at, if_neg (by omega)]; exact P2.2.2.1.1
          have F3 : FRd z0 z3 := by rw [hz3e]; exact ⟨fr_up F12.1 _ _ rfl, ff_up F12.2 _ rfl⟩
          have ef := fun d => m_eitherF d f22
          simp only [ef, xbd_n, hI_fs, f25, zI_mul, zI_add, l112, if_neg b2]
          simp only [zI_nat r3c2, zst (show (0 : Int) ≤ 3 * (c : Int) + 2 by omega)]
          have c4r : zR (z3 100 24) := hz3 _ _
          obtain ⟨z5, hz5e⟩ : ∃ z5, z5 = zup z3 112 (3 * (c : Int) + 2) (z3 100 24) := ⟨_, rfl⟩
          rw [← hz5e]
          have hz5 : zRR z5 := by rw [hz5e]; exact zRR_up hz3 _ _ c4r
          have e5 : z5 100 = z3 100 := by rw [hz5e]; exact zup_ne _ _ _ (by decide)
          have FR5 : FRd z0 z5 := by rw [hz5e]; exact ⟨fr_up F3.1 _ _ rfl, ff_ne F3.2 _ _ (by decide)⟩
          have g22 : z5 100 22 = 1 := by rw [e5]; exact f22
          have g25 : z5 100 25 = c := by rw [e5]; exact f25
          have sf := fun d c => m_isSignF d (z := z5) (c := c) g22
          have df := fun d x => m_needF d (z := z5) (x := x) g22
          simp only [sf, df, xbd_n, hI_fs, g25, zI_add, hI_us]
          refine bad _ (i + 1) (zRR_up hz5 _ _ (zR_s (by omega))) ⟨fr_up FR5.1 _ _ rfl, ff_up FR5.2 _ rfl⟩ ?_ ?_ el
          · rw [zup_at, if_neg (by omega)]; exact g22
          · rw [zup_at, if_neg (by omega), e5]; exact f19
      · have en : nmO T n (stN T n i) 0 4 = -1 := by
          unfold nmO
          rw [if_neg (fun x => w ⟨x.1, by have := x.2.2; show wt T n (stN T n i) ≤ 3; omega⟩)]
        have el : pLine (Kk T n) (Ww T n) i = (false, i, [], []) := by
          unfold pLine
          rw [if_neg w]
        have m0 := fun d => m_need0 d h4
        have e22 : zup z 100 22 1 100 22 = 1 := by rw [zup_at, if_pos ⟨rfl, rfl⟩]
        rw [en, if_pos (by decide)]
        simp only [m0, xbd_n, hI_fs, e22, if_neg n10]
        refine bad _ i (zRR_up h1 _ _ (zR_s (by omega))) ⟨fr_up hF.1 _ _ rfl, ff_up hF.2 _ rfl⟩ e22 ?_ el
        rw [zup_at, if_neg (by omega)]; exact v1
theorem m_read (d : Nat) {T : Int → Int} {n : Int} {m : Nat} (hT : tpB T n) (hk : Tks T n m) {z : zH} (hz : zRR z) (hM : MT T n z) : xw (cM (d + 23) 220 [xR 28 100] (hI z)) (PRd T n z (RD T n)) := by
  have h0r : zR 0 := zR_s (by omega)
  obtain ⟨z1, hz1e⟩ : ∃ z1, z1 = zup (zup (zup (zup (zup z 100 20 0) 100 22 0) 100 23 0) 100 24 0) 100 25 0 := ⟨_, rfl⟩
  have hz1 : zRR z1 := by rw [hz1e]; exact zRR_up (zRR_up (zRR_up (zRR_up (zRR_up hz _ _ h0r) _ _ h0r) _ _ h0r) _ _ h0r) _ _ h0r
  have F1 : FRd z z1 := by
    rw [hz1e]
    exact ⟨fr_up (fr_up (fr_up (fr_up (fr_up (fr_rf _ _) _ _ rfl) _ _ rfl) _ _ rfl) _ _ rfl) _ _ rfl, ff_up (ff_up (ff_up (ff_up (ff_up (ff_rf _ _) _ rfl) _ rfl) _ rfl) _ rfl) _ rfl⟩
  have M1 : MT T n z1 := MT_t hM (F1.2 4 rfl) (F1.1 103 rfl)
  have k20 : z1 100 20 = 0 := by rw [hz1e]; simp only [zup_at, true_and, and_true, Int.reduceEq, if_false, if_true]
  have k22 : z1 100 22 = 0 := by rw [hz1e]; simp only [zup_at, true_and, and_true, Int.reduceEq, if_false, if_true]
  have k23 : z1 100 23 = 0 := by rw [hz1e]; simp only [zup_at, true_and, and_true, Int.reduceEq, if_false, if_true]
  have k24 : z1 100 24 = 0 := by rw [hz1e]; simp only [zup_at, true_and, and_true, Int.reduceEq, if_false, if_true]
  have k25 : z1 100 25 = 0 := by rw [hz1e]; simp only [zup_at, true_and, and_true, Int.reduceEq, if_false, if_true]
  have nb := stN_b (T := T) hk.1.1 0
  rw [e_X12_read, show xF = 999999 + 1 from rfl, l_X12_read_0]
  simp only [zLit, hI_us]
  rw [← hz1e]
  refine xw_k (m_next (d + 19) hT hz1 M1 k20 ⟨by omega, hk.1.1⟩) ?_
  intro r2 z2 _ hz2 ⟨a1, a2, a3⟩
  have F2 : FRd z z2 := FRd_tr F1 ⟨fr_mono a2 rfl, ff_mono a3 rfl⟩
  have P := m_read_l d hT hk (z0 := z) 9 0 0 L00 0 z2 (by omega) ⟨hz2, MT_t M1 (a3 4 rfl) (a2 103 rfl), a1, by rw [a3 22 rfl]; exact k22, by omega, by rw [a3 24 rfl]; exact k24, by omega, by omega, by rw [a3 23 rfl]; exact k23⟩ (by rw [a3 25 rfl]; exact k25) (fun k hk => absurd hk (by omega)) F2 999999 (by omega)
  exact P
