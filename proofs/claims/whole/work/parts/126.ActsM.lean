/-! PURE, part 56: the model's acts from a place -/
/-- since z0 (so many acts) -/
def FA (z0 z : zH) (B0 B : Int → List Int) (H a : Int) : Prop := (∀ q, z0 104 q ≤ z 104 q) ∧ (∀ q, H ≤ z 104 q → z 104 q = z0 104 q) ∧ (∀ K, H ≤ K → B K = B0 K) ∧ (z0 100 13 ≤ z 100 13 ∧ z 100 13 ≤ z0 100 13 + a) ∧ (∀ c L, msz z0 c L → msz z c L) ∧ (∀ j, j < z0 100 13 → z 107 j = z0 107 j) ∧ fr [100, 104, 105, 106, 107] z0 z ∧ ff [5, 6, 7, 8, 13] z0 z
theorem FA_rf (z : zH) (B : Int → List Int) (H : Int) : FA z z B B H 0 := ⟨fun _ => Int.le_refl _, fun _ _ => rfl, fun _ _ => rfl, ⟨Int.le_refl _, by omega⟩, fun _ _ h => h, fun _ _ => rfl, fr_rf _ _, ff_rf _ _⟩
theorem FA_t {z0 z z' : zH} {B0 B : Int → List Int} {H a : Int} (h : FA z0 z B0 B H a) (e4 : z' 104 = z 104) (e6 : z' 106 = z 106) (e7 : z' 107 = z 107) (e13 : z' 100 13 = z 100 13) (f : fr [100] z z') (g : ff [5, 6, 7, 8] z z') : FA z0 z' B0 B H (a + 1) := by
  obtain ⟨h1, h2, h3, h4, h5, h6, h7, h8⟩ := h
  refine ⟨fun q => by rw [e4]; exact h1 q, fun q hq => by rw [e4] at hq ⊢; exact h2 q hq, h3, by rw [e13]; omega, fun c L hh => ?_, fun j hj => by rw [e7]; exact h6 j hj, fr_tr h7 (fr_mono f (T := [100, 104, 105, 106, 107]) rfl) rfl, ff_tr h8 (ff_mono g (T := [5, 6, 7, 8, 13]) rfl) rfl⟩
  unfold msz
  rw [e6, e7, e13]
  exact h5 c L hh
theorem FA_off {z0 z z1 z2 : zH} {B0 B B' : Int → List Int} {H a p t : Int} (h : FA z0 z B0 B H a) (ht : t < H) (e4 : z1 104 = z 104) (e6 : z1 106 = z 106) (e7 : z1 107 = z 107) (e13 : z1 100 13 = z 100 13) (f : fr [100] z z1) (g : ff [5, 6, 7, 8] z z1) (o : MOff z1 z2 B B' p t) : FA z0 z2 B0 B' H (a + 1) := by
  obtain ⟨h1, h2, h3, h4, h5, h6, h7, h8⟩ := h
  obtain ⟨o1, o2, o3, o4, o5, o6, o7, o8, o9, o10⟩ := o
  rw [e13] at o6 o8
  refine ⟨fun q => ?_, fun q hq => ?_, fun K hK => by rw [o5 K (by omega), h3 K hK], by omega, fun c L hh => o7 c L ?_, fun j hj => by rw [o8 j (by omega), e7]; exact h6 j hj, fr_tr (fr_tr h7 (fr_mono f (T := [100, 104, 105, 106, 107]) rfl) rfl) o9 rfl, ff_tr (ff_tr h8 (ff_mono g (T := [5, 6, 7, 8, 13]) rfl) rfl) (ff_mono o10 (T := [5, 6, 7, 8, 13]) rfl) rfl⟩
  · have := h1 q
    rw [o2, e4]
    split
    · rename_i w
      rw [w.1] at this ⊢
      omega
    · exact this
  · rw [o2, e4] at hq ⊢
    by_cases w : q = p ∧ z 104 p < t
    · rw [if_pos w] at hq
      omega
    · rw [if_neg w] at hq ⊢
      exact h2 q hq
  · unfold msz
    rw [e6, e7, e13]
    exact h5 c L hh
theorem m_acts (d : Nat) {v : Int → Int} (hL : LandI v) {c0 : crft} (ok0 : okC v c0) {k H c : Int} (hk : 0 ≤ k ∧ k < 768) (hH : 1 ≤ H ∧ H ≤ 99) (hr : Rch v c0 (unp k H)) {Q : Int → zH → Prop} (N0 : Nat) {z0 : zH} {B0 : Int → List Int} (h13 : 0 ≤ z0 100 13 ∧ z0 100 13 ≤ 6980) (hc : 0 ≤ c ∧ c < z0 100 13) (h104 : z0 104 k = H) (cont : ∀ (z : zH) (B : Int → List Int), zRR z → z 101 = v → SM v c0 z B H → FA z0 z B0 B H 9 → (∀ a, mayC v (unp k H) a → (spAct v (unp k H) a).2.2.2 ≤ z 104 (plc (spAct v (unp k H) a))) → ∀ n, N0 ≤ n → xw (r_X12_reach (d + 3) n 91 [some (xR 28 100), some (xI (zI H)), some (xI (zI (z 107 c))), none, none] [] (hI z)) Q) : ∀ (m : Nat) (a : Int), 0 ≤ a → a + m = 9 → ∀ (z : zH) (B : Int → List Int), zRR z → z 101 = v → SM v c0 z B H → FA z0 z B0 B H a → (∀ b, b < a → mayC v (unp k H) b → (spAct v (unp k H) b).2.2.2 ≤ z 104 (plc (spAct v (unp k H) b))) → ∀ n, N0 + m < n → xw (r_X12_reach (d + 3) n 105 [some (xR 28 100), some (xI (zI H)), some (xI (zI c)), some (xI (zI k)), some (xI (zI a))] [] (hI z)) Q := by
  have h0r : zR 0 := zR_s (by omega)
  have Hr : zR H := zR_s (by omega)
  have kr : zR k := zR_s (by omega)
  have cr : zR c := zR_s (by omega)
  have n12 : ¬ zI 12 = zI 0 := by decide
  have n3 : ¬ zI 3 = zI 0 := by decide
  have n4 : ¬ zI 4 = zI 0 := by decide
  have bk := bnd (n := 768) hk.1 (by omega) (by omega)
  have bc := bnd (n := 7000) hc.1 (by omega) (by omega)
  have r12 : zR 12 := zR_s (by omega)
  have r3 : zR 3 := zR_s (by omega)
  have r4 : zR 4 := zR_s (by omega)
  have k3 : zR (k / 3) := zR_s (by omega)
  have e1 : zI k / zI 12 = zI (k / 12) := zI_div kr hk.1 (by omega) r12
  have e2 : zI k / zI 3 = zI (k / 3) := zI_div kr hk.1 (by omega) r3
  have e3 : zI (k / 3) - zI (k / 3) / zI 4 * zI 4 = zI (k / 3 % 4) := zI_rem k3 (by omega) (by omega) r4
  have e4 : zI k - zI (k / 3) * zI 3 = zI (k % 3) := by rw [← e2]; exact zI_rem kr hk.1 (by omega) r3
  have okp := Rch_ok hL ok0 hr
  intro m
  induction m with
  | zero =>
    intro a a0 a1 z B hz hv hS hF hd n hn
    obtain ⟨n, rfl⟩ := Nat.exists_eq_succ_of_ne_zero (show n ≠ 0 by omega)
    have ea : a = 9 := by omega
    subst ea
    have ec : hI z 107 (zI c).toNatClampNeg = zI (z 107 c) := by rw [zI_nat cr, zld hc.1]
    rw [l_X12_reach_105]
    simp only [zLit, lenX_s, if_neg bc, ec]
    rw [if_neg (by rw [zI_lt (zR_s (by omega)) (zR_s (by omega))]; omega)]
    exact cont z B hz hv hS hF (fun b hb => hd b (by have := hb.1; omega) hb) n (by omega)
  | succ m ih =>
    intro a a0 a1 z B hz hv hS hF hd n hn
    obtain ⟨n, rfl⟩ := Nat.exists_eq_succ_of_ne_zero (show n ≠ 0 by omega)
    have ek : hI z 104 (zI k).toNatClampNeg = zI (z 104 k) := by rw [zI_nat kr, zld hk.1]
    have eH : z 104 k = H := by
      have u := hF.1 k
      have w := hF.2.1 k (by omega)
      omega
    have F13 := hF.2.2.2.1
    rw [l_X12_reach_105]
    simp only [zLit, lenX_s, if_neg bk, ek, eH, if_neg n12, if_neg n3, if_neg n4, e1, e2, e3, e4, hI_us]
    rw [if_pos (by rw [zI_lt (zR_s (by omega)) (zR_s (by omega))]; omega), if_pos trivial]
    obtain ⟨zu, hzu⟩ : ∃ zu, zu = zup (zup (zup (zup z 100 5 (k / 12)) 100 6 (k / 3 % 4)) 100 7 (k % 3)) 100 8 H := ⟨_, rfl⟩
    rw [← hzu]
    have cu : crM zu = unp k H := by rw [hzu]; rfl
    have fu : fr [100] z zu := by rw [hzu]; exact fr_up (fr_up (fr_up (fr_up (fr_rf _ _) _ _ rfl) _ _ rfl) _ _ rfl) _ _ rfl
    have gu : ff [5, 6, 7, 8] z zu := by rw [hzu]; exact ff_up (ff_up (ff_up (ff_up (ff_rf _ _) _ rfl) _ rfl) _ rfl) _ rfl
    have zu_r : zRR zu := by rw [hzu]; exact zRR_up (zRR_up (zRR_up (zRR_up hz _ _ (zR_s (by omega))) _ _ (zR_s (by omega))) _ _ (zR_s (by omega))) _ _ Hr
    have u101 : zu 101 = v := by rw [fu 101 rfl]; exact hv
    have u13 : zu 100 13 = z 100 13 := gu 13 rfl
    have okv : okC (zu 101) (crM zu) := by rw [u101, cu]; exact okp
    have mm := fun d => m_mayC d zu_r (by rw [u101]; exact hL) okv (a := a) ⟨a0, by omega⟩
    rw [u101, cu] at mm
    simp only [mm, xbd_n, zB_0, zI_add]
    by_cases w : mayC v (unp k H) a
    · rw [if_neg (fun x => x w)]
      refine xw_k (m_actW d zu_r (by rw [u101]; exact hL) okv (a := a) (by rw [u101, cu]; exact w)) ?_
      intro r z1 hr1 hz1 ⟨c1, f1, g1⟩
      rw [u101, cu] at c1
      have hstep := Rch_step hr w
      have ok1 := Rch_ok hL ok0 hstep
      have dn := act_dn hL okp w
      have x5 : z1 100 5 = (spAct v (unp k H) a).1 := by rw [← c1]
      have x6 : z1 100 6 = (spAct v (unp k H) a).2.1 := by rw [← c1]
      have x7 : z1 100 7 = (spAct v (unp k H) a).2.2.1 := by rw [← c1]
      have x8 : z1 100 8 = (spAct v (unp k H) a).2.2.2 := by rw [← c1]
      have fz1 : fr [100] z z1 := fr_tr fu f1 rfl
      have gz1 : ff [5, 6, 7, 8] z z1 := ff_tr gu g1 rfl
      simp only [hI_fs, zI_mul, zI_add, x5, x6, x7, x8]
      rw [show 12 * (spAct v (unp k H) a).1 + 3 * (spAct v (unp k H) a).2.1 + (spAct v (unp k H) a).2.2.1 = plc (spAct v (unp k H) a) from rfl]
      have pb := plc_b hL ok1
      have t9 := ok1.2.2.2
      have tH : (spAct v (unp k H) a).2.2.2 < H := dn
      have rr : Rch v c0 (unp (plc (spAct v (unp k H) a)) (spAct v (unp k H) a).2.2.2) := by rw [unp_plc ok1.2.1 ok1.2.2.1]; exact hstep
      have s1 : SM v c0 z1 B H := SM_t hS (fz1 104 rfl) (fz1 105 rfl) (fz1 106 rfl) (fz1 107 rfl) (gz1 13 rfl)
      have w13 : z1 100 13 = z 100 13 := gz1 13 rfl
      refine xw_k (m_comes (d + 2) hz1 s1.1 (p := plc (spAct v (unp k H) a)) (t := (spAct v (unp k H) a).2.2.2) pb t9 (by omega)) ?_
      intro r2 z2 hr2 hz2 ⟨B2, o⟩
      have s2 := SM_off s1 t9 rr o
      have F2 := FA_off hF tH (fz1 104 rfl) (fz1 106 rfl) (fz1 107 rfl) (gz1 13 rfl) fz1 gz1 o
      have o2 := o.2.1
      have e104 : z1 104 = z 104 := fz1 104 rfl
      refine ih (a + 1) (by omega) (by omega) z2 B2 hz2 (by rw [o.2.2.2.2.2.2.2.2.1 101 rfl, fz1 101 rfl]; exact hv) s2 F2 (fun b hb hm => ?_) n (by omega)
      by_cases e : b = a
      · subst e
        rw [o2]
        split
        · exact Int.le_refl _
        · rename_i y
          by_cases y2 : z1 104 (plc (spAct v (unp k H) b)) < (spAct v (unp k H) b).2.2.2
          · exact absurd ⟨rfl, y2⟩ y
          · omega
      · have y := hd b (by omega) hm
        rw [o2, e104]
        split
        · rename_i y2
          rw [← y2.1] at y2
          omega
        · exact y
    · rw [if_pos w]
      refine ih (a + 1) (by omega) (by omega) zu B zu_r u101 (SM_t hS (fu 104 rfl) (fu 105 rfl) (fu 106 rfl) (fu 107 rfl) u13) (FA_t hF (fu 104 rfl) (fu 106 rfl) (fu 107 rfl) u13 fu gu) (fun b hb hm => ?_) n (by omega)
      rw [fu 104 rfl]
      by_cases e : b = a
      · subst e; exact absurd hm w
      · exact hd b (by omega) hm
