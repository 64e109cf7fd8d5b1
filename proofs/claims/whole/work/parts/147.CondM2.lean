/-! PURE, part 77: the model reads a COND, whole -/
theorem m_nextP (d : Nat) {T : Int → Int} {n : Int} {m : Nat} (hT : tpB T n) (hk : Tks T n m) {z : zH} {i : Nat} {q dp : Int} (hP : PreM T n m z i q dp) (hi : Kk T n i ≠ 0) : xw (cM (d + 3) 210 [xR 28 100] (hI z)) (fun _ z' => PreM T n m z' (i + 1) q dp ∧ FM q z z' ∧ z' 113 = z 113) := by
  obtain ⟨h1, h2, h3, h4, h5, h6, h7, h8, h9⟩ := hP
  have O := Tks_O hk
  have im := (O.1 i).mpr hi
  have bi := O.2.1 i im
  have rb := rn_b (T := T) (n := n) (p := stN T n i) (hk.2.2.2 i im)
  have sb := stN_b (T := T) hk.1.1 i
  refine xw_m (m_next d hT h1 h2 (t := rn T n (stN T n i)) h3.2.1 ⟨by omega, rb.2⟩) ?_
  intro r z1 _ hz1 ⟨a1, a2, a3⟩
  have F : FM q z z1 := ⟨fr_mono a2 rfl, ff_mono a3 rfl, fun j _ => by rw [a2 113 rfl]⟩
  exact ⟨⟨hz1, FM_MT h2 F, a1, by rw [a3 22 rfl]; exact h4, by omega, by rw [a3 24 rfl]; exact h6, h7, by omega, by rw [a3 23 rfl]; exact h9⟩, F, a2 113 rfl⟩
theorem PostN_tr {T : Int → Int} {n q dp : Int} {r : PR} {z0 z z' : zH} (h : FM q z0 z) (k : PostN T n q dp r z z') : PostN T n q dp r z0 z' := ⟨k.1, k.2.1, k.2.2.1, FM_tr h k.2.2.2 (Int.le_refl _)⟩
theorem m_one_l (d : Nat) {T : Int → Int} {n : Int} {m : Nat} (hT : tpB T n) (hk : Tks T n m) {dp : Int} {b : Nat → PR} (hbrk : ∀ (z : zH) (j : Nat) (q : Int) (k N : Nat) (Q : Int → zH → Prop), PreM T n m z j q dp → sgA (Kk T n) (Ww T n) j 40 → (∀ z', zRR z' → PostN T n q dp (b j) z z' → xw (r_X12_one (d + 7) N 180 [some (xR 28 100), some (xI (zI (k : Int))), some (xI (zI 0)), none, none] [] (hI z')) Q) → xw (if zI 4 < zI (dp + 1) then (xbd (cM (d + 7) 214 [xR 28 100, xI (zI 0)] (hI (zup z 100 23 (dp + 1)))) fun r101 h102 => xbd (cM (d + 7) 216 [xR 28 100] h102) fun r103 h104 => xbd (cM (d + 7) 213 [xR 28 100, xI (zI 41)] h104) fun r105 h106 => xbd (cM (d + 7) 214 [xR 28 100, xI r105] h106) fun r107 h108 => r_X12_one (d + 7) N 180 [some (xR 28 100), some (xI (zI (k : Int))), some (xI (zI 0)), none, none] [] (xup h108 100 23 (h108 100 23 - zI 1))) else (xbd (cM (d + 7) 214 [xR 28 100, xI (zI 1)] (hI (zup z 100 23 (dp + 1)))) fun r109 h110 => xbd (cM (d + 7) 216 [xR 28 100] h110) fun r111 h112 => xbd (cM (d + 7) 213 [xR 28 100, xI (zI 41)] h112) fun r113 h114 => xbd (cM (d + 7) 214 [xR 28 100, xI r113] h114) fun r115 h116 => r_X12_one (d + 7) N 180 [some (xR 28 100), some (xI (zI (k : Int))), some (xI (zI 0)), none, none] [] (xup h116 100 23 (h116 100 23 - zI 1)))) Q) (hbP : ∀ j, sgA (Kk T n) (Ww T n) j 40 → PB (stN T n) m j (b j)) (hdp : 0 ≤ dp ∧ dp ≤ 4) {i0 : Nat} (hi0 : i0 ≤ m) {q : Int} (hq : 0 ≤ q ∧ 2 * q ≤ stN T n i0) {z0 : zH} {k0 : Nat} (hk0 : nots (Kk T n) (Ww T n) 240 i0 = k0) : ∀ (g k : Nat) (z : zH), k + nots (Kk T n) (Ww T n) g (i0 + k) = k0 → m ≤ i0 + k + g → PreM T n m z (i0 + k) q dp → FM q z0 z → ∀ N, g + 400 < N → xw (r_X12_one (d + 7) N 2 [some (xR 28 100), some (xI (zI (k : Int))), none, none, none] [] (hI z)) (fun _ z' => PostN T n q dp (pOne (Kk T n) (Ww T n) b i0) z0 z') := by
  have O := Tks_O hk
  have nb := fun i => stN_b (T := T) hk.1.1 i
  have n2b := nots_b O 240 i0 hi0
  rw [hk0] at n2b
  have m240 := hk.2.1
  have tail : ∀ (k : Nat) (z : zH), PreM T n m z (i0 + k) q dp → FM q z0 z → k = k0 → ∀ N, 300 < N → xw (xbd (cM (d + 7) 213 [xR 28 100, xI (zI 40)] (hI z)) fun r3 h4 => if r3 = zI 0 then (xbd (cM (d + 7) 218 [xR 28 100] h4) fun r5 h6 => xbd (cM (d + 7) 213 [xR 28 100, xI (zI 60)] h6) fun r7 h8 => if r7 = zI 0 then (xbd (cM (d + 7) 213 [xR 28 100, xI (zI 61)] h8) fun r9 h10 => if r9 = zI 0 then (xbd (cM (d + 7) 213 [xR 28 100, xI (zI 60)] h10) fun r11 h12 => if r11 = zI 0 then (xbd (cM (d + 7) 213 [xR 28 100, xI (zI 61)] h12) fun r13 h14 => if r13 = zI 0 then (xbd (cM (d + 7) 213 [xR 28 100, xI (zI 62)] h14) fun r15 h16 => if r15 = zI 0 then (xbd (cM (d + 7) 214 [xR 28 100, xI (zI 0)] h16) fun r23 h24 => xbd (cM (d + 7) 218 [xR 28 100] h24) fun r25 h26 => xbd (cM (d + 7) 215 [xR 28 100, xI (zI 1010 * (zI 1010 * zI 2 + r5) + r25)] h26) fun r27 h28 => r_X12_one (d + 7) N 180 [some (xR 28 100), some (xI (zI (k : Int))), some (xI (zI 0)), none, none] [] h28) else (xbd (cM (d + 7) 214 [xR 28 100, xI (zI 1)] h16) fun r23 h24 => xbd (cM (d + 7) 218 [xR 28 100] h24) fun r25 h26 => xbd (cM (d + 7) 215 [xR 28 100, xI (zI 1010 * (zI 1010 * zI 2 + r5) + r25)] h26) fun r27 h28 => r_X12_one (d + 7) N 180 [some (xR 28 100), some (xI (zI (k : Int))), some (xI (zI 0)), none, none] [] h28)) else (xbd (cM (d + 7) 214 [xR 28 100, xI (zI 1)] h14) fun r23 h24 => xbd (cM (d + 7) 218 [xR 28 100] h24) fun r25 h26 => xbd (cM (d + 7) 215 [xR 28 100, xI (zI 1010 * (zI 1010 * zI 2 + r5) + r25)] h26) fun r27 h28 => r_X12_one (d + 7) N 180 [some (xR 28 100), some (xI (zI (k : Int))), some (xI (zI 0)), none, none] [] h28)) else (xbd (cM (d + 7) 214 [xR 28 100, xI (zI 1)] h12) fun r23 h24 => xbd (cM (d + 7) 218 [xR 28 100] h24) fun r25 h26 => xbd (cM (d + 7) 215 [xR 28 100, xI (zI 1010 * (zI 1010 * zI 2 + r5) + r25)] h26) fun r27 h28 => r_X12_one (d + 7) N 180 [some (xR 28 100), some (xI (zI (k : Int))), some (xI (zI 0)), none, none] [] h28)) else (xbd (cM (d + 7) 213 [xR 28 100, xI (zI 60)] h10) fun r11 h12 => if r11 = zI 0 then (xbd (cM (d + 7) 213 [xR 28 100, xI (zI 61)] h12) fun r13 h14 => if r13 = zI 0 then (xbd (cM (d + 7) 213 [xR 28 100, xI (zI 62)] h14) fun r15 h16 => if r15 = zI 0 then (xbd (cM (d + 7) 214 [xR 28 100, xI (zI 0)] h16) fun r23 h24 => xbd (cM (d + 7) 218 [xR 28 100] h24) fun r25 h26 => xbd (cM (d + 7) 215 [xR 28 100, xI (zI 1010 * (zI 1010 * zI 1 + r5) + r25)] h26) fun r27 h28 => r_X12_one (d + 7) N 180 [some (xR 28 100), some (xI (zI (k : Int))), some (xI (zI 0)), none, none] [] h28) else (xbd (cM (d + 7) 214 [xR 28 100, xI (zI 1)] h16) fun r23 h24 => xbd (cM (d + 7) 218 [xR 28 100] h24) fun r25 h26 => xbd (cM (d + 7) 215 [xR 28 100, xI (zI 1010 * (zI 1010 * zI 1 + r5) + r25)] h26) fun r27 h28 => r_X12_one (d + 7) N 180 [some (xR 28 100), some (xI (zI (k : Int))), some (xI (zI 0)), none, none] [] h28)) else (xbd (cM (d + 7) 214 [xR 28 100, xI (zI 1)] h14) fun r23 h24 => xbd (cM (d + 7) 218 [xR 28 100] h24) fun r25 h26 => xbd (cM (d + 7) 215 [xR 28 100, xI (zI 1010 * (zI 1010 * zI 1 + r5) + r25)] h26) fun r27 h28 => r_X12_one (d + 7) N 180 [some (xR 28 100), some (xI (zI (k : Int))), some (xI (zI 0)), none, none] [] h28)) else (xbd (cM (d + 7) 214 [xR 28 100, xI (zI 1)] h12) fun r23 h24 => xbd (cM (d + 7) 218 [xR 28 100] h24) fun r25 h26 => xbd (cM (d + 7) 215 [xR 28 100, xI (zI 1010 * (zI 1010 * zI 1 + r5) + r25)] h26) fun r27 h28 => r_X12_one (d + 7) N 180 [some (xR 28 100), some (xI (zI (k : Int))), some (xI (zI 0)), none, none] [] h28))) else (xbd (cM (d + 7) 213 [xR 28 100, xI (zI 60)] h8) fun r11 h12 => if r11 = zI 0 then (xbd (cM (d + 7) 213 [xR 28 100, xI (zI 61)] h12) fun r13 h14 => if r13 = zI 0 then (xbd (cM (d + 7) 213 [xR 28 100, xI (zI 62)] h14) fun r15 h16 => if r15 = zI 0 then (xbd (cM (d + 7) 214 [xR 28 100, xI (zI 0)] h16) fun r23 h24 => xbd (cM (d + 7) 218 [xR 28 100] h24) fun r25 h26 => xbd (cM (d + 7) 215 [xR 28 100, xI (zI 1010 * (zI 1010 * zI 0 + r5) + r25)] h26) fun r27 h28 => r_X12_one (d + 7) N 180 [some (xR 28 100), some (xI (zI (k : Int))), some (xI (zI 0)), none, none] [] h28) else (xbd (cM (d + 7) 214 [xR 28 100, xI (zI 1)] h16) fun r23 h24 => xbd (cM (d + 7) 218 [xR 28 100] h24) fun r25 h26 => xbd (cM (d + 7) 215 [xR 28 100, xI (zI 1010 * (zI 1010 * zI 0 + r5) + r25)] h26) fun r27 h28 => r_X12_one (d + 7) N 180 [some (xR 28 100), some (xI (zI (k : Int))), some (xI (zI 0)), none, none] [] h28)) else (xbd (cM (d + 7) 214 [xR 28 100, xI (zI 1)] h14) fun r23 h24 => xbd (cM (d + 7) 218 [xR 28 100] h24) fun r25 h26 => xbd (cM (d + 7) 215 [xR 28 100, xI (zI 1010 * (zI 1010 * zI 0 + r5) + r25)] h26) fun r27 h28 => r_X12_one (d + 7) N 180 [some (xR 28 100), some (xI (zI (k : Int))), some (xI (zI 0)), none, none] [] h28)) else (xbd (cM (d + 7) 214 [xR 28 100, xI (zI 1)] h12) fun r23 h24 => xbd (cM (d + 7) 218 [xR 28 100] h24) fun r25 h26 => xbd (cM (d + 7) 215 [xR 28 100, xI (zI 1010 * (zI 1010 * zI 0 + r5) + r25)] h26) fun r27 h28 => r_X12_one (d + 7) N 180 [some (xR 28 100), some (xI (zI (k : Int))), some (xI (zI 0)), none, none] [] h28))) else (if zI 4 < h4 100 23 + zI 1 then (xbd (cM (d + 7) 214 [xR 28 100, xI (zI 0)] (xup h4 100 23 (h4 100 23 + zI 1))) fun r101 h102 => xbd (cM (d + 7) 216 [xR 28 100] h102) fun r103 h104 => xbd (cM (d + 7) 213 [xR 28 100, xI (zI 41)] h104) fun r105 h106 => xbd (cM (d + 7) 214 [xR 28 100, xI r105] h106) fun r107 h108 => r_X12_one (d + 7) N 180 [some (xR 28 100), some (xI (zI (k : Int))), some (xI (zI 0)), none, none] [] (xup h108 100 23 (h108 100 23 - zI 1))) else (xbd (cM (d + 7) 214 [xR 28 100, xI (zI 1)] (xup h4 100 23 (h4 100 23 + zI 1))) fun r109 h110 => xbd (cM (d + 7) 216 [xR 28 100] h110) fun r111 h112 => xbd (cM (d + 7) 213 [xR 28 100, xI (zI 41)] h112) fun r113 h114 => xbd (cM (d + 7) 214 [xR 28 100, xI r113] h114) fun r115 h116 => r_X12_one (d + 7) N 180 [some (xR 28 100), some (xI (zI (k : Int))), some (xI (zI 0)), none, none] [] (xup h116 100 23 (h116 100 23 - zI 1))))) (fun _ z' => PostN T n q dp (pOne (Kk T n) (Ww T n) b i0) z0 z') := by
    intro k z hP hF hkk N hN
    have e : pOne (Kk T n) (Ww T n) b i0 = ((pOn2 (Kk T n) (Ww T n) b (i0 + k)).1, (pOn2 (Kk T n) (Ww T n) b (i0 + k)).2.1, (pOn2 (Kk T n) (Ww T n) b (i0 + k)).2.2.1 ++ (if k % 2 = 1 then [0] else []), (pOn2 (Kk T n) (Ww T n) b (i0 + k)).2.2.2 ++ List.replicate k (-1)) := by
      unfold pOne
      rw [hk0, ← hkk]
    have pbo := PB_one O hbP hi0
    rw [e] at pbo ⊢
    have ms := fun d => m_isSign d hP.1 hT hP.2.1 (nb (i0 + k)) hP.2.2.1 hP.2.2.2.1 (c := 40) (by omega)
    have h23 := hP.2.2.2.2.2.2.2.2
    simp only [ms, xbd_n, zB_0]
    by_cases y : sgA (Kk T n) (Ww T n) (i0 + k) 40
    · rw [if_neg (fun w => w y)]
      have e2 : pOn2 (Kk T n) (Ww T n) b (i0 + k) = b (i0 + k) := by unfold pOn2; rw [if_pos y]
      rw [e2] at pbo ⊢
      simp only [hI_fs, h23, zI_add, hI_us]
      refine hbrk z (i0 + k) q k N _ hP y (fun z' hz' hp => ?_)
      exact m_oneT (d + 6) hk hq (by omega) pbo z' hz' (PostN_tr hF hp) N hN
    · rw [if_pos (show ¬ isS T n (stN T n (i0 + k)) 40 from y)]
      have e2 : pOn2 (Kk T n) (Ww T n) b (i0 + k) = pCmp (Kk T n) (Ww T n) (i0 + k) := by unfold pOn2; rw [if_neg y]
      rw [e2] at pbo ⊢
      have cont : ∀ z', zRR z' → PostN T n q dp (pCmp (Kk T n) (Ww T n) (i0 + k)) z z' → xw (r_X12_one (d + 7) N 180 [some (xR 28 100), some (xI (zI (k : Int))), some (xI (zI 0)), none, none] [] (hI z')) (fun _ z'' => PostN T n q dp ((pCmp (Kk T n) (Ww T n) (i0 + k)).1, (pCmp (Kk T n) (Ww T n) (i0 + k)).2.1, (pCmp (Kk T n) (Ww T n) (i0 + k)).2.2.1 ++ (if k % 2 = 1 then [0] else []), (pCmp (Kk T n) (Ww T n) (i0 + k)).2.2.2 ++ List.replicate k (-1)) z0 z'') := fun z' hz' hp => m_oneT (d + 6) hk hq (by omega) pbo z' hz' (PostN_tr hF hp) N hN
      refine xw_k (m_valP d hT hk hP) ?_
      intro rv z1 hrv hz1 ⟨y1, y2, y3, y4⟩
      by_cases x : vOkB (Kk T n) (Ww T n) (i0 + k) = true
      · obtain ⟨e1, P1, e113⟩ := y1 x
        subst e1
        have s60 := fun d => m_isSign d hz1 hT P1.2.1 (nb (i0 + k + 1)) P1.2.2.1 P1.2.2.2.1 (c := 60) (by omega)
        have s61 := fun d => m_isSign d hz1 hT P1.2.1 (nb (i0 + k + 1)) P1.2.2.1 P1.2.2.2.1 (c := 61) (by omega)
        have s62 := fun d => m_isSign d hz1 hT P1.2.1 (nb (i0 + k + 1)) P1.2.2.1 P1.2.2.2.1 (c := 62) (by omega)
        have hqj := hP.2.2.2.2.2.2.2.1
        simp only [s60, xbd_n, zB_0]
        by_cases q1 : sgA (Kk T n) (Ww T n) (i0 + k + 1) 60
        · rw [if_neg (fun w => w q1), if_neg (fun w => w q1)]
          simp only [zI_mul, zI_add]
          exact m_cmpT d hT hk x (s := 0) (by unfold sgn; rw [if_pos q1]) (by omega) P1 y4 ⟨hq.1, hqj⟩ cont
        · rw [if_pos (show ¬ isS T n (stN T n (i0 + k + 1)) 60 from q1)]
          simp only [s61, xbd_n, zB_0]
          by_cases q2 : sgA (Kk T n) (Ww T n) (i0 + k + 1) 61
          · rw [if_neg (fun w => w q2)]
            simp only [s60, xbd_n, zB_0]
            rw [if_pos (show ¬ isS T n (stN T n (i0 + k + 1)) 60 from q1)]
            simp only [s61, xbd_n, zB_0]
            rw [if_neg (fun w => w q2)]
            simp only [zI_mul, zI_add]
            exact m_cmpT d hT hk x (s := 1) (by unfold sgn; rw [if_neg q1, if_pos q2]) (by omega) P1 y4 ⟨hq.1, hqj⟩ cont
          · rw [if_pos (show ¬ isS T n (stN T n (i0 + k + 1)) 61 from q2)]
            simp only [s60, xbd_n, zB_0]
            rw [if_pos (show ¬ isS T n (stN T n (i0 + k + 1)) 60 from q1)]
            simp only [s61, xbd_n, zB_0]
            rw [if_pos (show ¬ isS T n (stN T n (i0 + k + 1)) 61 from q2)]
            simp only [s62, xbd_n, zB_0]
            by_cases q3 : sgA (Kk T n) (Ww T n) (i0 + k + 1) 62
            · rw [if_neg (fun w => w q3)]
              simp only [zI_mul, zI_add]
              exact m_cmpT d hT hk x (s := 2) (by unfold sgn; rw [if_neg q1, if_neg q2, if_pos q3]) (by omega) P1 y4 ⟨hq.1, hqj⟩ cont
            · rw [if_pos (show ¬ isS T n (stN T n (i0 + k + 1)) 62 from q3)]
              have er : pCmp (Kk T n) (Ww T n) (i0 + k) = (false, i0 + k + 1, [], []) := by
                unfold pCmp
                rw [if_pos x, if_neg (by unfold sgn; rw [if_neg q1, if_neg q2, if_neg q3]; omega)]
              have m0 := fun d => m_need0 d P1.2.2.2.1
              have f22 : zup z1 100 22 1 100 22 = 1 := by rw [zup_at, if_pos ⟨rfl, rfl⟩]
              have vf := fun d => m_valueF d f22
              have cf := fun d x => m_codesF d (x := x) f22
              simp only [m0, xbd_n]
              simp only [vf, cf, xbd_n]
              refine cont _ (zRR_up hz1 _ _ (zR_s (by omega))) ?_
              rw [er]
              exact ⟨(fun w => by cases w), fun _ => ⟨f22, by rw [zup_at, if_neg (by omega)]; exact P1.2.2.1.1⟩, by rw [zup_at, if_neg (by omega)]; exact y3, ⟨fr_up y4.1 _ _ rfl, ff_up y4.2.1 _ rfl, fun j hj => by rw [zup_ne _ _ _ (by decide)]; exact y4.2.2 j hj⟩⟩
      · obtain ⟨f1, f2⟩ := y2 x
        have er : pCmp (Kk T n) (Ww T n) (i0 + k) = (false, i0 + k, [], []) := by
          unfold pCmp
          rw [if_neg x]
        have sf := fun d c => m_isSignF d (z := z1) (c := c) f1
        have df := fun d x => m_needF d (z := z1) (x := x) f1
        have vf := fun d => m_valueF d f1
        have cf := fun d x => m_codesF d (x := x) f1
        simp only [sf, df, vf, cf, xbd_n, if_true]
        refine cont z1 hz1 ?_
        rw [er]
        exact ⟨(fun w => by cases w), fun _ => ⟨f1, f2⟩, y3, y4⟩
  intro g
  induction g with
  | zero =>
    intro k z hn hg hP hF N hN
    obtain ⟨N, rfl⟩ := Nat.exists_eq_succ_of_ne_zero (show N ≠ 0 by omega)
    have mw := fun d => m_isWord d hP.1 hT hP.2.1 (o := 13) ⟨by omega, by omega⟩ (nb (i0 + k)) hP.2.2.1 hP.2.2.2.1
    have k0' : ¬ isW T n (stN T n (i0 + k)) ((xnd 99 wdO 13 : Nat) : Int) := fun w => by
      have := (O.1 (i0 + k)).mpr (show Kk T n (i0 + k) ≠ 0 by have e : Kk T n (i0 + k) = kd T n (stN T n (i0 + k)) := rfl; have := w.1; omega)
      omega
    rw [l_X12_one_2]
    simp only [zLit, mw, xbd_n, zB_0, zI_add]
    rw [if_pos k0']
    exact tail k z hP hF (by unfold nots at hn; omega) N (by omega)
  | succ g ih =>
    intro k z hn hg hP hF N hN
    obtain ⟨N, rfl⟩ := Nat.exists_eq_succ_of_ne_zero (show N ≠ 0 by omega)
    have mw := fun d => m_isWord d hP.1 hT hP.2.1 (o := 13) ⟨by omega, by omega⟩ (nb (i0 + k)) hP.2.2.1 hP.2.2.2.1
    have e7 : ((xnd 99 wdO 13 : Nat) : Int) = 7 := by decide +kernel
    rw [e7] at mw
    rw [l_X12_one_2]
    simp only [zLit, mw, xbd_n, zB_0, zI_add]
    unfold nots at hn
    by_cases y : wdA (Kk T n) (Ww T n) (i0 + k) 7
    · rw [if_pos y] at hn
      rw [if_neg (fun w => w y)]
      refine xw_k (m_nextP (d + 4) hT hk hP (by have := y.1; omega)) ?_
      intro r1 z1 _ hz1 ⟨P1, F1, _⟩
      rw [show ((k : Int) + 1) = ((k + 1 : Nat) : Int) by omega]
      exact ih (k + 1) z1 (by rw [show i0 + (k + 1) = i0 + k + 1 by omega]; omega) (by omega) P1 (FM_tr hF F1 (Int.le_refl _)) N (by omega)
    · rw [if_neg y] at hn
      rw [if_pos (show ¬ isW T n (stN T n (i0 + k)) 7 from y)]
      exact tail k z hP hF (by omega) N (by omega)
theorem m_one (d : Nat) {T : Int → Int} {n : Int} {m : Nat} (hT : tpB T n) (hk : Tks T n m) {dp : Int} {b : Nat → PR} (hbrk : ∀ (z : zH) (j : Nat) (q : Int) (k N : Nat) (Q : Int → zH → Prop), PreM T n m z j q dp → sgA (Kk T n) (Ww T n) j 40 → (∀ z', zRR z' → PostN T n q dp (b j) z z' → xw (r_X12_one (d + 7) N 180 [some (xR 28 100), some (xI (zI (k : Int))), some (xI (zI 0)), none, none] [] (hI z')) Q) → xw (if zI 4 < zI (dp + 1) then (xbd (cM (d + 7) 214 [xR 28 100, xI (zI 0)] (hI (zup z 100 23 (dp + 1)))) fun r101 h102 => xbd (cM (d + 7) 216 [xR 28 100] h102) fun r103 h104 => xbd (cM (d + 7) 213 [xR 28 100, xI (zI 41)] h104) fun r105 h106 => xbd (cM (d + 7) 214 [xR 28 100, xI r105] h106) fun r107 h108 => r_X12_one (d + 7) N 180 [some (xR 28 100), some (xI (zI (k : Int))), some (xI (zI 0)), none, none] [] (xup h108 100 23 (h108 100 23 - zI 1))) else (xbd (cM (d + 7) 214 [xR 28 100, xI (zI 1)] (hI (zup z 100 23 (dp + 1)))) fun r109 h110 => xbd (cM (d + 7) 216 [xR 28 100] h110) fun r111 h112 => xbd (cM (d + 7) 213 [xR 28 100, xI (zI 41)] h112) fun r113 h114 => xbd (cM (d + 7) 214 [xR 28 100, xI r113] h114) fun r115 h116 => r_X12_one (d + 7) N 180 [some (xR 28 100), some (xI (zI (k : Int))), some (xI (zI 0)), none, none] [] (xup h116 100 23 (h116 100 23 - zI 1)))) Q) (hbP : ∀ j, sgA (Kk T n) (Ww T n) j 40 → PB (stN T n) m j (b j)) (hdp : 0 ≤ dp ∧ dp ≤ 4) (z : zH) (i : Nat) (q : Int) (hP : PreM T n m z i q dp) : xw (cM (d + 8) 219 [xR 28 100] (hI z)) (fun _ z' => PostN T n q dp (pOne (Kk T n) (Ww T n) b i) z z') := by
  rw [e_X12_one, show xF = 999999 + 1 from rfl, l_X12_one_0]
  simp only [zLit]
  have := hk.2.1
  exact m_one_l d hT hk hbrk hbP hdp hP.2.2.2.2.1 ⟨hP.2.2.2.2.2.2.1, hP.2.2.2.2.2.2.2.1⟩ rfl 240 0 z (by simp) (by omega) hP (FM_rf _ _) 999999 (by omega)
theorem m_all_l (d : Nat) {T : Int → Int} {n : Int} {m : Nat} (hT : tpB T n) (hk : Tks T n m) {dp : Int} {o : Nat → PR} (ho : ∀ (z : zH) (j : Nat) (q : Int), PreM T n m z j q dp → xw (cM (d + 6) 219 [xR 28 100] (hI z)) (fun _ z' => PostN T n q dp (o j) z z')) (hoP : ∀ j, j ≤ m → PB (stN T n) m j (o j)) {q0 : Int} (q00 : 0 ≤ q0) {z0 : zH} : ∀ (g i : Nat) (cc mc : List Int) (z : zH), m ≤ i + g → PreM T n m z i (q0 + mc.length) dp → has (z 113) q0 mc → FM q0 z0 z → ∀ N, g + 1 < N → xw (r_X12_all (d + 6) N 4 [some (xR 28 100)] [] (hI z)) (fun _ z' => PostN T n q0 dp (joL (Kk T n) (Ww T n) o 6 1 (-2) g i cc mc) z0 z') := by
  have h0r : zR 0 := zR_s (by omega)
  have O := Tks_O hk
  have nb := fun i => stN_b (T := T) hk.1.1 i
  have ew : ((xnd 99 wdO 14 : Nat) : Int) = 6 := by decide +kernel
  intro g
  induction g with
  | zero =>
    intro i cc mc z hg hP hh hF N hN
    obtain ⟨N, rfl⟩ := Nat.exists_eq_succ_of_ne_zero (show N ≠ 0 by omega)
    have mw := fun d => m_isWord d hP.1 hT hP.2.1 (o := 14) ⟨by omega, by omega⟩ (nb i) hP.2.2.1 hP.2.2.2.1
    rw [ew] at mw
    have k0' : ¬ isW T n (stN T n i) 6 := fun w => by
      have := (O.1 i).mpr (show Kk T n i ≠ 0 by have e : Kk T n i = kd T n (stN T n i) := rfl; have := w.1; omega)
      omega
    rw [l_X12_all_4]
    simp only [zLit, mw, xbd_n, zB_0]
    rw [if_pos k0']
    exact xw_ret h0r hP.1 ⟨fun _ => ⟨hP.2.2.1, hP.2.2.2.1, hP.2.2.2.2.2.1, hh⟩, fun y => absurd rfl y, hP.2.2.2.2.2.2.2.2, hF⟩
  | succ g ih =>
    intro i cc mc z hg hP hh hF N hN
    obtain ⟨N, rfl⟩ := Nat.exists_eq_succ_of_ne_zero (show N ≠ 0 by omega)
    have mw := fun d => m_isWord d hP.1 hT hP.2.1 (o := 14) ⟨by omega, by omega⟩ (nb i) hP.2.2.1 hP.2.2.2.1
    rw [ew] at mw
    rw [l_X12_all_4]
    simp only [zLit, mw, xbd_n, zB_0, zI_neg]
    unfold joL
    by_cases y : wdA (Kk T n) (Ww T n) i 6
    · rw [if_neg (fun w => w y), if_pos y]
      have im := (O.1 i).mpr (by have := y.1; omega)
      have bb := O.2.2.1 i y.1 (by have := y.2; omega) (by have := y.2; omega)
      refine xw_k (m_nextP (d + 3) hT hk hP (by have := y.1; omega)) ?_
      intro r1 z1 _ hz1 ⟨P1, F1, e113⟩
      refine xw_k (ho z1 (i + 1) _ P1) ?_
      intro r2 z2 _ hz2 hp
      have hp0 := hp
      have pb := hoP (i + 1) (by omega)
      obtain ⟨p1, p2, p3, p4⟩ := hp
      have FF2 := FM_tr (FM_tr hF F1 (by omega)) p4 (by omega)
      by_cases x : (o (i + 1)).1 = true
      · have P2 := PreM_p P1 hp0 pb x hz2
        have pl := pb.2.2 x
        obtain ⟨a1, a2, a3, a4⟩ := p1 x
        have k9 := hP.2.2.2.2.2.2.2.1
        have s240 := (nb (o (i + 1)).2.1).2
        have n240 := hk.1.2
        rw [if_pos x]
        refine xw_k (m_codes (d + 5) hz2 a2 a3 ⟨by omega, by omega⟩ (x := -2) (zR_s (by omega))) ?_
        intro r3 z3 _ hz3 ⟨c1, c2, c3, c4⟩
        have el : q0 + ((mc ++ ((o (i + 1)).2.2.2 ++ [-2])).length : Int) = q0 + mc.length + (o (i + 1)).2.2.2.length + 1 := by
          simp only [List.length_append, List.length_cons, List.length_nil]
          omega
        refine ih _ _ _ z3 (by omega) ?_ ?_ (FM_tr FF2 c3 (by omega)) N (by omega)
        · rw [el]
          exact ⟨hz3, FM_MT P2.2.1 c3, MV_24 a1 c4, by rw [c4 22 rfl]; exact a2, pb.2.1, c1, by omega, by omega, by rw [c4 23 rfl]; exact p3⟩
        · refine has_a _ _ _ (has_t _ _ (fun y y0 y1 => ?_) hh) (has_a _ _ _ (has_t _ _ (fun y y0 y1 => c3.2.2 y (by omega)) a4) ⟨c2, trivial⟩)
          rw [c3.2.2 y (by omega), p4.2.2 y (by omega), e113]
      · obtain ⟨f1, f2⟩ := p2 x
        rw [if_neg x]
        have cf := fun d x => m_codesF d (x := x) f1
        have nf := fun d o => m_isNameF d (z := z2) (o := o) f1
        simp only [cf, xbd_n]
        obtain ⟨N, rfl⟩ := Nat.exists_eq_succ_of_ne_zero (show N ≠ 0 by omega)
        rw [l_X12_all_4]
        simp only [zLit, nf, xbd_n, if_true]
        exact xw_ret h0r hz2 ⟨(fun w => by cases w), fun _ => ⟨f1, f2⟩, p3, FF2⟩
    · rw [if_pos (show ¬ isW T n (stN T n i) 6 from y), if_neg y]
      exact xw_ret h0r hP.1 ⟨fun _ => ⟨hP.2.2.1, hP.2.2.2.1, hP.2.2.2.2.2.1, hh⟩, fun y => absurd rfl y, hP.2.2.2.2.2.2.2.2, hF⟩
theorem m_all (d : Nat) {T : Int → Int} {n : Int} {m : Nat} (hT : tpB T n) (hk : Tks T n m) {dp : Int} {o : Nat → PR} (ho : ∀ (z : zH) (j : Nat) (q : Int), PreM T n m z j q dp → xw (cM (d + 6) 219 [xR 28 100] (hI z)) (fun _ z' => PostN T n q dp (o j) z z')) (hoP : ∀ j, j ≤ m → PB (stN T n) m j (o j)) (z : zH) (i : Nat) (q : Int) (hP : PreM T n m z i q dp) : xw (cM (d + 7) 217 [xR 28 100] (hI z)) (fun _ z' => PostN T n q dp (pJoin (Kk T n) (Ww T n) o 6 1 (-2) i) z z') := by
  have h0r : zR 0 := zR_s (by omega)
  rw [e_X12_all, show xF = 999999 + 1 from rfl, l_X12_all_0]
  refine xw_k (ho z i q hP) ?_
  intro r1 z1 _ hz1 hp
  have hp0 := hp
  obtain ⟨p1, p2, p3, p4⟩ := hp
  unfold pJoin
  have := hk.2.1
  by_cases x : (o i).1 = true
  · have P1 := PreM_p hP hp0 (hoP i hP.2.2.2.2.1) x hz1
    rw [if_pos x]
    exact m_all_l d hT hk ho hoP hP.2.2.2.2.2.2.1 240 _ _ _ z1 (by omega) P1 (p1 x).2.2.2 p4 999999 (by omega)
  · obtain ⟨f1, f2⟩ := p2 x
    have nf := fun d o => m_isNameF d (z := z1) (o := o) f1
    rw [if_neg x]
    obtain ⟨k, hk'⟩ : ∃ k, (999999 : Nat) = k + 1 := ⟨999998, rfl⟩
    rw [hk', l_X12_all_4]
    simp only [zLit, nf, xbd_n, if_true]
    exact xw_ret h0r hz1 ⟨(fun w => by cases w), fun _ => ⟨f1, f2⟩, p3, p4⟩
theorem m_either_l (d : Nat) {T : Int → Int} {n : Int} {m : Nat} (hT : tpB T n) (hk : Tks T n m) {dp : Int} {o : Nat → PR} (ho : ∀ (z : zH) (j : Nat) (q : Int), PreM T n m z j q dp → xw (cM (d + 6) 217 [xR 28 100] (hI z)) (fun _ z' => PostN T n q dp (o j) z z')) (hoP : ∀ j, j ≤ m → PB (stN T n) m j (o j)) {q0 : Int} (q00 : 0 ≤ q0) {z0 : zH} : ∀ (g i : Nat) (cc mc : List Int) (z : zH), m ≤ i + g → PreM T n m z i (q0 + mc.length) dp → has (z 113) q0 mc → FM q0 z0 z → ∀ N, g + 1 < N → xw (r_X12_either (d + 6) N 4 [some (xR 28 100)] [] (hI z)) (fun _ z' => PostN T n q0 dp (joL (Kk T n) (Ww T n) o 5 2 (-3) g i cc mc) z0 z') := by
  have h0r : zR 0 := zR_s (by omega)
  have O := Tks_O hk
  have nb := fun i => stN_b (T := T) hk.1.1 i
  have ew : ((xnd 99 wdO 15 : Nat) : Int) = 5 := by decide +kernel
  intro g
  induction g with
  | zero =>
    intro i cc mc z hg hP hh hF N hN
    obtain ⟨N, rfl⟩ := Nat.exists_eq_succ_of_ne_zero (show N ≠ 0 by omega)
    have mw := fun d => m_isWord d hP.1 hT hP.2.1 (o := 15) ⟨by omega, by omega⟩ (nb i) hP.2.2.1 hP.2.2.2.1
    rw [ew] at mw
    have k0' : ¬ isW T n (stN T n i) 5 := fun w => by
      have := (O.1 i).mpr (show Kk T n i ≠ 0 by have e : Kk T n i = kd T n (stN T n i) := rfl; have := w.1; omega)
      omega
    rw [l_X12_either_4]
    simp only [zLit, mw, xbd_n, zB_0]
    rw [if_pos k0']
    exact xw_ret h0r hP.1 ⟨fun _ => ⟨hP.2.2.1, hP.2.2.2.1, hP.2.2.2.2.2.1, hh⟩, fun y => absurd rfl y, hP.2.2.2.2.2.2.2.2, hF⟩
  | succ g ih =>
    intro i cc mc z hg hP hh hF N hN
    obtain ⟨N, rfl⟩ := Nat.exists_eq_succ_of_ne_zero (show N ≠ 0 by omega)
    have mw := fun d => m_isWord d hP.1 hT hP.2.1 (o := 15) ⟨by omega, by omega⟩ (nb i) hP.2.2.1 hP.2.2.2.1
    rw [ew] at mw
    rw [l_X12_either_4]
    simp only [zLit, mw, xbd_n, zB_0, zI_neg]
    unfold joL
    by_cases y : wdA (Kk T n) (Ww T n) i 5
    · rw [if_neg (fun w => w y), if_pos y]
      have im := (O.1 i).mpr (by have := y.1; omega)
      have bb := O.2.2.1 i y.1 (by have := y.2; omega) (by have := y.2; omega)
      refine xw_k (m_nextP (d + 3) hT hk hP (by have := y.1; omega)) ?_
      intro r1 z1 _ hz1 ⟨P1, F1, e113⟩
      refine xw_k (ho z1 (i + 1) _ P1) ?_
      intro r2 z2 _ hz2 hp
      have hp0 := hp
      have pb := hoP (i + 1) (by omega)
      obtain ⟨p1, p2, p3, p4⟩ := hp
      have FF2 := FM_tr (FM_tr hF F1 (by omega)) p4 (by omega)
      by_cases x : (o (i + 1)).1 = true
      · have P2 := PreM_p P1 hp0 pb x hz2
        have pl := pb.2.2 x
        obtain ⟨a1, a2, a3, a4⟩ := p1 x
        have k9 := hP.2.2.2.2.2.2.2.1
        have s240 := (nb (o (i + 1)).2.1).2
        have n240 := hk.1.2
        rw [if_pos x]
        refine xw_k (m_codes (d + 5) hz2 a2 a3 ⟨by omega, by omega⟩ (x := -3) (zR_s (by omega))) ?_
        intro r3 z3 _ hz3 ⟨c1, c2, c3, c4⟩
        have el : q0 + ((mc ++ ((o (i + 1)).2.2.2 ++ [-3])).length : Int) = q0 + mc.length + (o (i + 1)).2.2.2.length + 1 := by
          simp only [List.length_append, List.length_cons, List.length_nil]
          omega
        refine ih _ _ _ z3 (by omega) ?_ ?_ (FM_tr FF2 c3 (by omega)) N (by omega)
        · rw [el]
          exact ⟨hz3, FM_MT P2.2.1 c3, MV_24 a1 c4, by rw [c4 22 rfl]; exact a2, pb.2.1, c1, by omega, by omega, by rw [c4 23 rfl]; exact p3⟩
        · refine has_a _ _ _ (has_t _ _ (fun y y0 y1 => ?_) hh) (has_a _ _ _ (has_t _ _ (fun y y0 y1 => c3.2.2 y (by omega)) a4) ⟨c2, trivial⟩)
          rw [c3.2.2 y (by omega), p4.2.2 y (by omega), e113]
      · obtain ⟨f1, f2⟩ := p2 x
        rw [if_neg x]
        have cf := fun d x => m_codesF d (x := x) f1
        have nf := fun d o => m_isNameF d (z := z2) (o := o) f1
        simp only [cf, xbd_n]
        obtain ⟨N, rfl⟩ := Nat.exists_eq_succ_of_ne_zero (show N ≠ 0 by omega)
        rw [l_X12_either_4]
        simp only [zLit, nf, xbd_n, if_true]
        exact xw_ret h0r hz2 ⟨(fun w => by cases w), fun _ => ⟨f1, f2⟩, p3, FF2⟩
    · rw [if_pos (show ¬ isW T n (stN T n i) 5 from y), if_neg y]
      exact xw_ret h0r hP.1 ⟨fun _ => ⟨hP.2.2.1, hP.2.2.2.1, hP.2.2.2.2.2.1, hh⟩, fun y => absurd rfl y, hP.2.2.2.2.2.2.2.2, hF⟩
theorem m_either (d : Nat) {T : Int → Int} {n : Int} {m : Nat} (hT : tpB T n) (hk : Tks T n m) {dp : Int} {o : Nat → PR} (ho : ∀ (z : zH) (j : Nat) (q : Int), PreM T n m z j q dp → xw (cM (d + 6) 217 [xR 28 100] (hI z)) (fun _ z' => PostN T n q dp (o j) z z')) (hoP : ∀ j, j ≤ m → PB (stN T n) m j (o j)) (z : zH) (i : Nat) (q : Int) (hP : PreM T n m z i q dp) : xw (cM (d + 7) 216 [xR 28 100] (hI z)) (fun _ z' => PostN T n q dp (pJoin (Kk T n) (Ww T n) o 5 2 (-3) i) z z') := by
  have h0r : zR 0 := zR_s (by omega)
  rw [e_X12_either, show xF = 999999 + 1 from rfl, l_X12_either_0]
  refine xw_k (ho z i q hP) ?_
  intro r1 z1 _ hz1 hp
  have hp0 := hp
  obtain ⟨p1, p2, p3, p4⟩ := hp
  unfold pJoin
  have := hk.2.1
  by_cases x : (o i).1 = true
  · have P1 := PreM_p hP hp0 (hoP i hP.2.2.2.2.1) x hz1
    rw [if_pos x]
    exact m_either_l d hT hk ho hoP hP.2.2.2.2.2.2.1 240 _ _ _ z1 (by omega) P1 (p1 x).2.2.2 p4 999999 (by omega)
  · obtain ⟨f1, f2⟩ := p2 x
    have nf := fun d o => m_isNameF d (z := z1) (o := o) f1
    rw [if_neg x]
    obtain ⟨k, hk'⟩ : ∃ k, (999999 : Nat) = k + 1 := ⟨999998, rfl⟩
    rw [hk', l_X12_either_4]
    simp only [zLit, nf, xbd_n, if_true]
    exact xw_ret h0r hz1 ⟨(fun w => by cases w), fun _ => ⟨f1, f2⟩, p3, p4⟩
theorem m_eitherG {T : Int → Int} {n : Int} {m : Nat} (hT : tpB T n) (hk : Tks T n m) : ∀ (g d : Nat), g ≤ 4 → ∀ (z : zH) (j : Nat) (q : Int), PreM T n m z j q (4 - (g : Int)) → xw (cM (d + 10 + 3 * g) 216 [xR 28 100] (hI z)) (fun _ z' => PostN T n q (4 - (g : Int)) (pCond (Kk T n) (Ww T n) (bro (Kk T n) (Ww T n) g) j) z z') := by
  have O := Tks_O hk
  intro g
  induction g with
  | zero =>
    intro d _
    have one := m_one d hT hk (dp := 4 - ((0 : Nat) : Int)) (b := bro (Kk T n) (Ww T n) 0) (fun z j q k N Q hP hj cont => m_brk0 d (by omega) hP cont) (PB_bro O 0) (by omega)
    have all := m_all (d + 2) hT hk one (fun j hj => PB_one O (PB_bro O 0) hj)
    exact m_either (d + 3) hT hk all (fun j hj => PB_all O (PB_bro O 0) hj)
  | succ g ih =>
    intro d hg
    have one : ∀ (z : zH) (j : Nat) (q : Int), PreM T n m z j q (4 - ((g + 1 : Nat) : Int)) → xw (cM (d + 5 + 3 * g + 6) 219 [xR 28 100] (hI z)) (fun _ z' => PostN T n q (4 - ((g + 1 : Nat) : Int)) (pOne (Kk T n) (Ww T n) (bro (Kk T n) (Ww T n) (g + 1)) j) z z') := by
      rw [show d + 5 + 3 * g + 6 = d + 3 + 3 * g + 8 by omega]
      exact m_one (d + 3 + 3 * g) hT hk (dp := 4 - ((g + 1 : Nat) : Int)) (b := bro (Kk T n) (Ww T n) (g + 1)) (fun z j q k N Q hP hj cont => m_brk1 (d + 3 + 3 * g) hT hk (g := g) (fun z j q hP => by rw [show d + 3 + 3 * g + 7 = d + 10 + 3 * g by omega]; exact ih d (by omega) z j q hP) (by omega) (by omega) hP hj cont) (PB_bro O (g + 1)) (by omega)
    have all : ∀ (z : zH) (j : Nat) (q : Int), PreM T n m z j q (4 - ((g + 1 : Nat) : Int)) → xw (cM (d + 6 + 3 * g + 6) 217 [xR 28 100] (hI z)) (fun _ z' => PostN T n q (4 - ((g + 1 : Nat) : Int)) (pAll (Kk T n) (Ww T n) (bro (Kk T n) (Ww T n) (g + 1)) j) z z') := by
      rw [show d + 6 + 3 * g + 6 = d + 5 + 3 * g + 7 by omega]
      exact m_all (d + 5 + 3 * g) hT hk one (fun j hj => PB_one O (PB_bro O (g + 1)) hj)
    have ei := m_either (d + 6 + 3 * g) hT hk all (fun j hj => PB_all O (PB_bro O (g + 1)) hj)
    rw [show d + 10 + 3 * (g + 1) = d + 6 + 3 * g + 7 by omega]
    exact ei
