/-! PURE, part 50: spread -/
def SR (v : Int → Int) (c0 : crft) (z : zH) (L : Int → List Int) (H : Int) : Prop := Chn z L ∧ (∀ q, 0 ≤ q → q < 768 → 0 ≤ z 51 q → z 51 q ≤ 99 ∧ Rch v c0 (unp q (z 51 q))) ∧ ∀ q, 0 ≤ q → q < 768 → 0 ≤ z 51 q → z 51 q < H → q ∈ L (z 51 q)
theorem SR_off {v : Int → Int} {c0 : crft} {z z' : zH} {L L' : Int → List Int} {H p t : Int} (h : SR v c0 z L H) (ht : 0 ≤ t ∧ t ≤ 99) (hr : Rch v c0 (unp p t)) (o : Off z z' L L' p t) : SR v c0 z' L' H := by
  obtain ⟨h1, h2, h3⟩ := h
  obtain ⟨o1, o2, o3, o4, o5, o6, o7⟩ := o
  refine ⟨o1, fun q q0 q1 => ?_, fun q q0 q1 => ?_⟩
  · rw [o2]
    by_cases e : q = p ∧ z 51 p < t
    · rw [if_pos e]
      intro _
      rw [e.1]
      exact ⟨ht.2, hr⟩
    · rw [if_neg e]
      exact h2 q q0 q1
  · rw [o2]
    by_cases e : q = p ∧ z 51 p < t
    · rw [if_pos e]
      intro _ _
      rw [e.1]
      exact o4 e.2
    · rw [if_neg e]
      intro b0 b1
      have b9 := (h2 q q0 q1 b0).1
      by_cases w : q = p
      · rw [o5 (by rw [← w]; by_cases y : z 51 p < t; exact absurd ⟨w, y⟩ e; rw [w]; omega)]
        exact h3 q q0 q1 b0 b1
      · exact (o3 _ q b0 b9 w).mpr (h3 q q0 q1 b0 b1)
theorem c_spread_l (d : Nat) {v : Int → Int} (hL : LandI v) {c0 : crft} {p H : Int} (hp : 0 ≤ p ∧ p / 12 < v 0 * v 1) (hH : 0 ≤ H ∧ H ≤ 99) (hg : v (24 + p / 12) < H) (hr : Rch v c0 (unp p H)) : ∀ (m : Nat) (k : Int), 0 ≤ k → k + m = 9 → ∀ (z : zH) (L : Int → List Int), zRR z → LandR z v → SR v c0 z L H → ∀ n, m < n → xw (r_X6_spread (d + 3) n 21 [some (xR 22 50), some (xR 21 2), none, some (xI (zI H)), some (xI (zI (p / 12))), some (xI (zI (p / 3 % 4))), some (xI (zI (p % 3))), some (xI (zI k)), none, none, none, none] [] (hI z)) (fun _ z' => ∃ L', SR v c0 z' L' H ∧ (∀ q, z 51 q ≤ z' 51 q) ∧ (∀ q, H ≤ z' 51 q → z' 51 q = z 51 q) ∧ (∀ K, H ≤ K → L' K = L K) ∧ (∀ a, k ≤ a → mayC v (unp p H) a → (spAct v (unp p H) a).2.2.2 ≤ z' 51 (plc (spAct v (unp p H) a))) ∧ fr [51, 52, 53, 54] z z') := by
  have h0r : zR 0 := zR_s (by omega)
  have har := area hL.1 hL.2.1
  have gr := hL.2.2.1 (p / 12) (by omega) (by omega)
  have ok : okC v (unp p H) := ⟨⟨by show 0 ≤ p / 12; omega, hp.2⟩, by show 0 ≤ p / 3 % 4 ∧ p / 3 % 4 ≤ 3; omega, by show 0 ≤ p % 3 ∧ p % 3 ≤ 2; omega, hH⟩
  have b2 : 0 ≤ p / 3 % 4 ∧ p / 3 % 4 ≤ 3 := by omega
  have b3 : 0 ≤ p % 3 ∧ p % 3 ≤ 2 := by omega
  intro m
  induction m with
  | zero =>
    intro k k0 k1 z L hz hR hS n hn
    obtain ⟨n, rfl⟩ := Nat.exists_eq_succ_of_ne_zero (show n ≠ 0 by omega)
    rw [l_X6_spread_21]
    simp only [zLit]
    rw [if_neg (by rw [zI_lt (zR_s (by omega)) (zR_s (by omega))]; omega)]
    refine xw_ret h0r hz ⟨L, hS, fun _ => Int.le_refl _, fun _ _ => rfl, fun _ _ => rfl, fun a ha hm => ?_, fr_rf _ _⟩
    have := hm.1
    omega
  | succ m ih =>
    intro k k0 k1 z L hz hR hS n hn
    obtain ⟨n, rfl⟩ := Nat.exists_eq_succ_of_ne_zero (show n ≠ 0 by omega)
    have c1 := fun d h => c_pace d (sp := p % 3) (a := k) b3 ⟨k0, by omega⟩ h
    have c2 := fun d h => c_turn d (hd := p / 3 % 4) (a := k) b2 ⟨k0, by omega⟩ h
    have ihk := ih (k + 1) (by omega) (by omega)
    -- no place there: nothing is asked of this act
    have skip : ¬ mayC v (unp p H) k → xw (r_X6_spread (d + 3) n 21 [some (xR 22 50), some (xR 21 2), none, some (xI (zI H)), some (xI (zI (p / 12))), some (xI (zI (p / 3 % 4))), some (xI (zI (p % 3))), some (xI (zI (k + 1))), none, none, none, none] [] (hI z)) (fun _ z' => ∃ L', SR v c0 z' L' H ∧ (∀ q, z 51 q ≤ z' 51 q) ∧ (∀ q, H ≤ z' 51 q → z' 51 q = z 51 q) ∧ (∀ K, H ≤ K → L' K = L K) ∧ (∀ a, k ≤ a → mayC v (unp p H) a → (spAct v (unp p H) a).2.2.2 ≤ z' 51 (plc (spAct v (unp p H) a))) ∧ fr [51, 52, 53, 54] z z') := by
      intro hno
      refine xw_m (ihk z L hz hR hS n (by omega)) ?_
      intro r z1 _ _ ⟨L', s1, s2, s3, s4, s5, s6⟩
      refine ⟨L', s1, s2, s3, s4, fun a ha hm => ?_, s6⟩
      by_cases e : a = k
      · subst e
        exact absurd hm hno
      · exact s5 a (by omega) hm
    have pcr : zR (spPace (p % 3) k) := by unfold spPace; exact zR_s (by omega)
    rw [l_X6_spread_21]
    simp only [zLit, zI_add, zI_neg]
    rw [if_pos (by rw [zI_lt (zR_s (by omega)) (zR_s (by omega))]; omega)]
    simp only [c1, xbd_n]
    by_cases q1 : spPace (p % 3) k < 0
    · rw [if_pos (by rw [zI_lt pcr h0r]; exact q1)]
      exact skip (fun w => by have := w.2.2.1.1; simp only [unp] at this; omega)
    · rw [if_neg (by rw [zI_lt pcr h0r]; exact q1)]
      by_cases q2 : spPace (p % 3) k < 3
      · rw [if_pos (by rw [zI_lt pcr (zR_s (by omega))]; exact q2)]
        have tb := spTurn_b (p / 3 % 4) k
        have c3 := fun d => c_ahead d hR hL (c := p / 12) (way := spTurn (p / 3 % 4) k) (sp := spPace (p % 3) k) ⟨by omega, hp.2⟩ tb ⟨by omega, by omega⟩
        simp only [c2, xbd_n]
        simp only [c3, xbd_n]
        rw [show spAhead (v 0) (v 1) (p / 12) (spTurn (p / 3 % 4) k) (spFar (spPace (p % 3) k)) = spGo v (p / 12) (p / 3 % 4) (p % 3) k from rfl]
        have gb := spGo_b hL (p / 12) (p / 3 % 4) (p % 3) k
        have ggr : zR (spGo v (p / 12) (p / 3 % 4) (p % 3) k) := zR_s (by omega)
        by_cases q3 : spGo v (p / 12) (p / 3 % 4) (p % 3) k = -1
        · rw [if_pos (by rw [q3])]
          exact skip (fun w => by have := w.2.2.2; simp only [unp] at this; omega)
        · rw [if_neg (by rw [zI_eq ggr (zR_s (by omega))]; exact q3)]
          have hm : mayC v (unp p H) k := ⟨⟨k0, by omega⟩, by simp only [unp]; omega, ⟨by simp only [unp]; omega, by simp only [unp]; omega⟩, by simp only [unp]; omega⟩
          have c4 := fun d => c_loss d hR hL (hd := spTurn (p / 3 % 4) k) (sp := spPace (p % 3) k) (a := k) tb ⟨by omega, by omega⟩ ⟨k0, by omega⟩
          have lb := spLoss_b hL k tb (sp := spPace (p % 3) k) ⟨by omega, by omega⟩
          simp only [c4, xbd_n]
          obtain ⟨t, ht⟩ : ∃ t, t = spSink H (spLoss v (spTurn (p / 3 % 4) k) (spPace (p % 3) k) k) := ⟨_, rfl⟩
          have mx : (if zI 0 < zI H - zI (spLoss v (spTurn (p / 3 % 4) k) (spPace (p % 3) k) k) then zI H - zI (spLoss v (spTurn (p / 3 % 4) k) (spPace (p % 3) k) k) else zI 0) = zI t := by
            rw [zI_sub, zI_ilt h0r (zR_s (by omega)), ht]
            rfl
          rw [mx]
          have tb2 : 0 ≤ t ∧ t < H := by
            rw [ht]
            unfold spSink
            split <;> omega
          have ea : spAct v (unp p H) k = (spGo v (p / 12) (p / 3 % 4) (p % 3) k, spTurn (p / 3 % 4) k, spPace (p % 3) k, t) := by rw [ht]; rfl
          obtain ⟨p', hp'⟩ : ∃ p', p' = 12 * spGo v (p / 12) (p / 3 % 4) (p % 3) k + 3 * spTurn (p / 3 % 4) k + spPace (p % 3) k := ⟨_, rfl⟩
          have epl : plc (spAct v (unp p H) k) = p' := by rw [ea, hp']; rfl
          have p'b : 0 ≤ p' ∧ p' < 768 := by omega
          have hr' : Rch v c0 (unp p' t) := by
            have w := Rch_step hr hm
            have u := unp_plc (c := spAct v (unp p H) k) (by rw [ea]; exact tb) (by rw [ea]; exact ⟨by show 0 ≤ spPace (p % 3) k; omega, by show spPace (p % 3) k ≤ 2; omega⟩)
            rw [epl] at u
            rw [← u] at w
            rw [ea] at w
            exact w
          refine xw_k (c_offer d hz hS.1 (p := p') (t := t) ⟨by omega, by omega⟩ tb ⟨by omega, by omega⟩ hp' ⟨by omega, by omega⟩ (fun w0 w1 => hS.2.2 p' p'b.1 p'b.2 w0 (by omega))) ?_
          intro r z1 hr1 hz1 ⟨L1, o⟩
          have hS1 := SR_off hS ⟨by omega, by omega⟩ hr' o
          obtain ⟨o1, o2, o3, o4, o5, o6, o7⟩ := o
          refine xw_m (ihk z1 L1 hz1 (LandR_fr hR o7 rfl rfl rfl rfl) hS1 n (by omega)) ?_
          intro r2 z2 _ _ ⟨L2, s1, s2, s3, s4, s5, s6⟩
          have up : ∀ q, z 51 q ≤ z1 51 q := by
            intro q
            rw [o2]
            split
            · rename_i w
              rw [w.1]
              omega
            · omega
          refine ⟨L2, s1, fun q => Int.le_trans (up q) (s2 q), fun q hq => ?_, fun K hK => by rw [s4 K hK, o6 K (by omega)], fun a ha hma => ?_, fr_tr o7 s6 rfl⟩
          · have e0 := s3 q hq
            have e1 : z1 51 q = z 51 q := by
              rw [e0, o2] at hq
              rw [o2, if_neg]
              intro w
              rw [if_pos w] at hq
              omega
            rw [e0, e1]
          · by_cases e : a = k
            · subst e
              rw [epl, ea]
              refine Int.le_trans ?_ (s2 p')
              show t ≤ z1 51 p'
              rw [o2]
              split
              · omega
              · rename_i w
                by_cases y : z 51 p' < t
                · exact absurd ⟨rfl, y⟩ w
                · omega
            · exact s5 a (by omega) hma
      · rw [if_neg (by rw [zI_lt pcr (zR_s (by omega))]; exact q2)]
        exact skip (fun w => by have := w.2.2.1.2; simp only [unp] at this; omega)
