/-! PURE, part 80: read -/
def zmid (z z' : zH) : zH := fun o => if [13, 14, 15, 16, 101].elem o = true then z o else z' o
theorem Inv_read {z z' : zH} (h : Inv z) (y : zRR z') (f : fr [13, 14, 15, 16, 55, 57, 58, 59, 60, 61, 62, 63, 100, 101, 112, 113] z z') (g : ff [4, 19, 20, 21, 22, 23, 24, 25] z z') (hp : PTape z') (hx : PHands 13 z' (z' 101)) (ev : ∀ k, ¬ (k = 10 ∨ k = 14 ∨ (296 ≤ k ∧ k < 483)) → z' 101 k = z 101 k) : Inv z' := by
  obtain ⟨hz, hW, hK, hT, hO, hS, hF, hC⟩ := h
  have lo : ∀ o, o < 55 → ¬ (13 ≤ o ∧ o ≤ 16) → z' o = z o := fun o ho h2 => f o ((by decide : ∀ o, o < 55 → ¬ (13 ≤ o ∧ o ≤ 16) → [13, 14, 15, 16, 55, 57, 58, 59, 60, 61, 62, 63, 100, 101, 112, 113].elem o = false) o ho h2)
  have md : ∀ o, o < 23 → zmid z z' o = z o := by
    intro o ho
    unfold zmid
    by_cases q : [13, 14, 15, 16, 101].elem o = true
    · rw [if_pos q]
    · rw [if_neg q]
      refine lo o (by omega) (fun x => q ?_)
      have : o = 13 ∨ o = 14 ∨ o = 15 ∨ o = 16 := by omega
      rcases this with e | e | e | e <;> subst e <;> rfl
  have hW1 : PWorld 1 (zmid z z') (z 101) := PWorld_t hW (fun i i0 i1 => md _ (by omega)) (fun k _ => rfl)
  have fm : fr [13, 14, 15, 16, 101] (zmid z z') z' := by
    intro o ho
    unfold zmid
    rw [if_neg (by rw [ho]; decide)]
  exact ⟨y, PW_Hands hW1 hx fm (fun k hk _ => ev k hk), PKept_t hK (by rw [lo 0 (by omega) (by omega)]) (g 2 rfl) (fun i i0 i1 => lo _ (by omega) (by omega)) (f 102 rfl), hp, PRows_t hO (f 68 rfl) (by rw [lo 47 (by omega) (by omega)]) (by rw [lo 47 (by omega) (by omega)]) (g 31 rfl) (f 69 rfl) (f 115 rfl), PSheets_t hS (fun i hi => f _ ((by decide : ∀ i, i < 8 → [13, 14, 15, 16, 55, 57, 58, 59, 60, 61, 62, 63, 100, 101, 112, 113].elem (73 + i) = false) i hi)) (f 117 rfl) (f 118 rfl) (f 119 rfl), PShelves_t hF (f 70 rfl) (f 71 rfl) (f 120 rfl) (f 121 rfl) (f 122 rfl), PTrace_t hC (by rw [f 66 rfl]) (g 40 rfl) (f 67 rfl) (f 123 rfl)⟩
theorem c_hcp_57 (d : Nat) (z : zH) : cM (d + 1) 30 [xR 20 13, xR 20 57] (hI z) = some (zI 0, hI (zup (zcp (zcp (zcp z 58 14 9) 59 15 10) 60 16 240) 13 3 (z 57 3))) := by
  rw [e_X4_become]
  simp (maxSteps := 3000000) (disch := (first | exact hz _ _ | exact hv _ | exact hL | assumption | (simp (disch := decide) only [zup_ne]; exact hL) | (simp only [zR]; omega) | omega)) only [zLit, hI_fs, hI_us, zI_nat, zI_lt, lenX_s, Int.toNat_zero, Int.reduceToNat, Nat.reduceAdd, Int.reduceLT, or_self, if_false, zcp_l, Nat.reduceLT, Nat.lt_irrefl]
  simp only [zcp_ne _ _ (show (57 : Nat) ≠ 16 by decide), zcp_ne _ _ (show (57 : Nat) ≠ 15 by decide), zcp_ne _ _ (show (57 : Nat) ≠ 14 by decide)]
theorem k_read {z : zH} (h : Inv z) : two 121 220 [] z := by
  have hI0 := h
  obtain ⟨hz, hW, hK, hT, hO, hS, hF, hCt⟩ := h
  obtain ⟨t1, t2, t3⟩ := hT
  have h0r : zR 0 := zR_s (by omega)
  have tp : tpB (z 56) (z 100 4) := ⟨t2, fun j j0 j1 => (t3 j j0 j1).1⟩
  have mt : MT (z 56) (z 100 4) z := ⟨rfl, fun j j0 j1 => (t3 j j0 j1).2⟩
  refine xw_m (P := fun r z1 => zRR z1 ∧ (∃ m, Tks (z 56) (z 100 4) m) ∧ z1 55 1 = 0 ∧ ((RD (z 56) (z 100 4)).1 = true → r = (RD (z 56) (z 100 4)).2.2.2 ∧ fr [13, 14, 15, 16, 55, 57, 58, 59, 60, 61, 62, 63] z z1 ∧ (RD (z 56) (z 100 4)).2.2.2 ≤ 9 ∧ ∃ f zc, LCt zc (RD (z 56) (z 100 4)).2.2.2 (RD (z 56) (z 100 4)).2.2.1 f ∧ 2 * f ≤ 240 ∧ z1 13 3 = zc 57 3 ∧ (∀ k, 0 ≤ k → k < 9 → z1 14 k = zc 58 k) ∧ (∀ k, 0 ≤ k → k < 10 → z1 15 k = zc 59 k) ∧ ∀ k, 0 ≤ k → k < 240 → z1 16 k = zc 60 k) ∧ ((RD (z 56) (z 100 4)).1 ≠ true → r = -100 - stN (z 56) (z 100 4) (RD (z 56) (z 100 4)).2.1 ∧ fr [55, 57, 58, 59, 60, 61, 62, 63] z z1)) ?_ ?_
  · rw [e_X11_read]
    refine xw_k (c_fault 36 tp hz t1 rfl) ?_
    intro r z1 hr hz1 ⟨⟨m, tk⟩, p1, p2, p3, p4⟩
    have sb := stN_b (T := z 56) tk.1.1 (RD (z 56) (z 100 4)).2.1
    simp only [zLit, zI_neg, zI_sub, hI_us]
    have hz2 : zRR (zup z1 55 1 0) := zRR_up hz1 _ _ h0r
    by_cases x : (RD (z 56) (z 100 4)).1 = true
    · obtain ⟨er, f, l1, l2, l3⟩ := p1 x
      have hc := fun d => c_hcp_57 d (zup z1 55 1 0)
      rw [er, if_pos (by decide)]
      simp only [hc, xbd_n]
      obtain ⟨z3, e3⟩ : ∃ z3, z3 = zup (zcp (zcp (zcp (zup z1 55 1 0) 58 14 9) 59 15 10) 60 16 240) 13 3 (zup z1 55 1 0 57 3) := ⟨_, rfl⟩
      rw [← e3]
      have hz3 : zRR z3 := by rw [e3]; exact zRR_up (zRR_cp (zRR_cp (zRR_cp hz2 _ _ _) _ _ _) _ _ _) _ _ (hz2 _ _)
      have k13 : z3 13 3 = z1 57 3 := by rw [e3, zup_at, if_pos ⟨rfl, rfl⟩, zup_at, if_neg (by omega)]
      simp only [hI_fs, k13]
      have l13 : z1 57 3 = ((RD (z 56) (z 100 4)).2.2.2 : Int) := l1.1
      refine xw_ret (hz1 _ _) hz3 ⟨hz3, ⟨m, tk⟩, ?_, fun _ => ⟨l13, ?_, l3, f, z1, l1, l2, k13, fun k k0 k1 => ?_, fun k k0 k1 => ?_, fun k k0 k1 => ?_⟩, fun y => absurd x y⟩
      · rw [e3, zup_ne _ _ _ (by decide), zcp_ne _ _ (by decide), zcp_ne _ _ (by decide), zcp_ne _ _ (by decide), zup_at, if_pos ⟨rfl, rfl⟩]
      · rw [e3]
        exact fr_up (fr_cp (fr_cp (fr_cp (fr_up (fr_mono p3 rfl) _ _ rfl) _ _ rfl) _ _ rfl) _ _ rfl) _ _ rfl
      · rw [e3, zup_ne _ _ _ (by decide), zcp_ne _ _ (by decide), zcp_ne _ _ (by decide), zcp_at _ ⟨k0, k1⟩, zup_ne _ _ _ (by decide)]
      · rw [e3, zup_ne _ _ _ (by decide), zcp_ne _ _ (by decide), zcp_at _ ⟨k0, k1⟩, zcp_ne _ _ (by decide), zup_ne _ _ _ (by decide)]
      · rw [e3, zup_ne _ _ _ (by decide), zcp_at _ ⟨k0, k1⟩, zcp_ne _ _ (by decide), zcp_ne _ _ (by decide), zup_ne _ _ _ (by decide)]
    · have er := p2 x
      rw [er, if_neg (by rw [zI_lt (zR_s (by omega)) h0r]; omega)]
      refine xw_ret (zR_s (by omega)) hz2 ⟨hz2, ⟨m, tk⟩, by rw [zup_at, if_pos ⟨rfl, rfl⟩], fun y => absurd y x, fun _ => ⟨rfl, fr_up p3 _ _ rfl⟩⟩
  · intro r z1 hr hz1 ⟨_, ⟨m, tk⟩, q1, q2, q3⟩
    have O := Tks_O tk
    have f1 : fr [13, 14, 15, 16, 55, 57, 58, 59, 60, 61, 62, 63] z z1 := by
      by_cases x : (RD (z 56) (z 100 4)).1 = true
      · exact (q2 x).2.1
      · exact fr_mono (q3 x).2 rfl
    have mt1 : MT (z 56) (z 100 4) z1 := MT_t mt (by rw [f1 100 rfl]) (f1 103 rfl)
    refine xw_m (m_read 37 tp tk hz1 mt1) ?_
    intro r2 z2 hr2 hz2 ⟨p1, p2, p3, p4, p5⟩
    have F : fr [13, 14, 15, 16, 55, 57, 58, 59, 60, 61, 62, 63, 100, 101, 112, 113] z z2 := fr_tr (fr_mono f1 (T := [13, 14, 15, 16, 55, 57, 58, 59, 60, 61, 62, 63, 100, 101, 112, 113]) rfl) (fr_mono p4 rfl) rfl
    have G : ff [4, 19, 20, 21, 22, 23, 24, 25] z z2 := fun k hk => by rw [p5 k hk, f1 100 rfl]
    have tape : PTape z2 := ⟨by rw [p4 55 rfl, q1, p3], by rw [p3]; omega, fun i i0 i1 => by rw [p3] at i1; omega⟩
    by_cases x : (RD (z 56) (z 100 4)).1 = true
    · obtain ⟨e1, _, c9, f, zc, l1, l2, k13, k14, k15, k16⟩ := q2 x
      obtain ⟨e2, q, zl, m1, m2, m3, _, m4⟩ := p1 x
      have ok : ∀ k : Nat, k < (RD (z 56) (z 100 4)).2.2.2 → DNL ((RD (z 56) (z 100 4)).2.2.1 k) := rdL_ok O 9 0 L00 0 (fun k hk => absurd hk (by omega))
      obtain ⟨l3, l4, l5, l6, l7⟩ := l1
      have v296 : ∀ j, 0 ≤ j → j < 27 → z2 101 (296 + j) = zl 112 j := by
        intro j j0 j1
        rw [m4, if_neg (by omega), if_neg (by omega), if_neg (by omega), if_pos (by omega), show 296 + j - 296 = j by omega]
      have v323 : ∀ j, 0 ≤ j → j < 160 → z2 101 (323 + j) = zl 113 j := by
        intro j j0 j1
        rw [m4, if_neg (by omega), if_neg (by omega), if_pos (by omega), show 323 + j - 323 = j by omega]
      refine ⟨by rw [e2, e1], Inv_read hI0 hz2 F G tape ⟨?_, ?_, fun i i0 i1 => ?_⟩ (fun k hk => ?_)⟩
      · rw [p4 13 rfl, k13, l3, m4, if_neg (by omega), if_pos rfl]
      · rw [m4, if_neg (by omega), if_pos rfl]; omega
      · rw [m4, if_neg (by omega), if_pos rfl] at i1
        obtain ⟨n, hn⟩ : ∃ n : Nat, (n : Int) = i := ⟨i.toNat, by omega⟩
        subst hn
        obtain ⟨a1, a2, a3, a4, a5, a6⟩ := l7 n (by omega)
        obtain ⟨b1, b2, b3, b4, b5⟩ := m1 n (by omega)
        have w0 : z2 101 (296 + 3 * (n : Int)) = ((RD (z 56) (z 100 4)).2.2.1 n).1 := by rw [v296 _ (by omega) (by omega)]; exact b1
        have w1 : z2 101 (297 + 3 * (n : Int)) = zl 112 (3 * (n : Int) + 1) := by rw [show 297 + 3 * (n : Int) = 296 + (3 * (n : Int) + 1) by omega]; exact v296 _ (by omega) (by omega)
        have w2 : z2 101 (298 + 3 * (n : Int)) = zl 112 (3 * (n : Int) + 2) := by rw [show 298 + 3 * (n : Int) = 296 + (3 * (n : Int) + 2) by omega]; exact v296 _ (by omega) (by omega)
        have u0 : z2 14 n = zc 58 n := by rw [p4 14 rfl]; exact k14 _ (by omega) (by omega)
        have u1 : z2 15 n = zc 59 n := by rw [p4 15 rfl]; exact k15 _ (by omega) (by omega)
        have u2 : z2 15 ((n : Int) + 1) = zc 59 ((n : Int) + 1) := by rw [p4 15 rfl]; exact k15 _ (by omega) (by omega)
        have D := ok n (by omega)
        have H1 : has (z2 16) (zc 59 n) ((RD (z 56) (z 100 4)).2.2.1 n).2.1 := has_t _ _ (fun j j0 j1 => by rw [p4 16 rfl]; exact k16 j (by omega) (by omega)) a3
        have H2 : has (fun k => z2 101 (323 + k)) (zl 112 (3 * (n : Int) + 1)) ((RD (z 56) (z 100 4)).2.2.1 n).2.2 := has_t _ _ (fun j j0 j1 => v323 j (by omega) (by omega)) b2
        have E := DN_Den D rfl (Int.le_refl _) (Int.le_refl _) H1 H2 ⟨a5, by simp only; omega⟩ ⟨b4, by simp only; omega⟩
        simp only at E
        rw [← a4, ← b3] at E
        show z2 14 n = z2 101 (296 + 3 * (n : Int)) ∧ (0 ≤ z2 101 (296 + 3 * (n : Int)) ∧ z2 101 (296 + 3 * (n : Int)) ≤ 3) ∧ ∃ B, Den (z2 16) (fun k => z2 101 (323 + k)) (z2 15 n) (z2 15 ((n : Int) + 1)) (z2 101 (297 + 3 * (n : Int))) (z2 101 (298 + 3 * (n : Int))) B 16
        rw [w1, w2, u1, u2, u0, w0, a1]
        exact ⟨rfl, a2, E⟩
      · rw [m4, if_neg (by omega), if_neg (by omega), if_neg (by omega), if_neg (by omega), f1 101 rfl]
    · obtain ⟨e1, f2⟩ := q3 x
      obtain ⟨e2, m1⟩ := p2 x
      have e101 : z2 101 = z 101 := by rw [m1, f1 101 rfl]
      refine ⟨by rw [e2, e1], Inv_read hI0 hz2 F G tape ?_ (fun k _ => by rw [e101])⟩
      rw [e101]
      have P := hW.2.2.2.2.2.1
      exact PHands_t P (by rw [p4 13 rfl, f2 13 rfl]) (by rw [p4 14 rfl, f2 14 rfl]) (by rw [p4 15 rfl, f2 15 rfl]) (by rw [p4 16 rfl, f2 16 rfl]) (fun _ _ => rfl)
