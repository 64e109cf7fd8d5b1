/-! PURE, part 55: the model's buckets; a place is come to -/
def msg (f g : Int → Int) (w : Int) : Int → List Int → Prop
  | c, [] => c = -1
  | c, k :: ks => (0 ≤ c ∧ c < w) ∧ f c = k ∧ msg f g w (g c) ks
theorem msg_c {f g f' g' : Int → Int} {w w' : Int} (hw : w ≤ w') (hf : ∀ j, 0 ≤ j → j < w → f' j = f j ∧ g' j = g j) : ∀ (L : List Int) (c : Int), msg f g w c L → msg f' g' w' c L := by
  intro L
  induction L with
  | nil => intro c h; exact h
  | cons k ks ih =>
    intro c h
    obtain ⟨h1, h2, h3⟩ := h
    have e := hf c h1.1 h1.2
    refine ⟨⟨h1.1, by omega⟩, by rw [e.1]; exact h2, ?_⟩
    rw [e.2]
    exact ih _ h3
abbrev msz (z : zH) : Int → List Int → Prop := msg (z 106) (z 107) (z 100 13)
def MC (z : zH) (B : Int → List Int) : Prop := ∀ H, 0 ≤ H → H ≤ 99 → msz z (z 105 H) (B H) ∧ (B H).Nodup ∧ ∀ k, k ∈ B H → (0 ≤ k ∧ k < 768) ∧ H ≤ z 104 k
/-- what it makes of the greatest and of the buckets -/
def MOff (z z' : zH) (B B' : Int → List Int) (p t : Int) : Prop := MC z' B' ∧ (∀ q, z' 104 q = if q = p ∧ z 104 p < t then t else z 104 q) ∧ (∀ K q, q ∈ B K → q ∈ B' K) ∧ (z 104 p < t → p ∈ B' t) ∧ (∀ K, t < K → B' K = B K) ∧ (z 100 13 ≤ z' 100 13 ∧ z' 100 13 ≤ z 100 13 + 1) ∧ (∀ c L, msz z c L → msz z' c L) ∧ (∀ j, j < z 100 13 → z' 107 j = z 107 j) ∧ fr [100, 104, 105, 106, 107] z z' ∧ ff [13] z z'
theorem m_comes (d : Nat) {z : zH} (hz : zRR z) {B : Int → List Int} (h : MC z B) {p t : Int} (hp : 0 ≤ p ∧ p < 768) (ht : 0 ≤ t ∧ t ≤ 99) (hw : 0 ≤ z 100 13 ∧ z 100 13 < 7000) : xw (cM (d + 1) 180 [xR 28 100, xI (zI p), xI (zI t)] (hI z)) (fun _ z' => ∃ B', MOff z z' B B' p t) := by
  have h0r : zR 0 := zR_s (by omega)
  have pr : zR p := zR_s (by omega)
  have tr : zR t := zR_s (by omega)
  have wr : zR (z 100 13) := hz _ _
  have bp := bnd (n := 768) hp.1 (by omega) (by omega)
  have bt := bnd (n := 100) ht.1 (by omega) (by omega)
  have bw := bnd (n := 7000) hw.1 (by omega) (by omega)
  have ep : hI z 104 (zI p).toNatClampNeg = zI (z 104 p) := by rw [zI_nat pr, zld hp.1]
  have et : hI z 105 (zI t).toNatClampNeg = zI (z 105 t) := by rw [zI_nat tr, zld ht.1]
  rw [e_X12_comes]
  simp only [zLit, lenX_s, hI_fs, if_neg bp, if_neg bt, if_neg bw, ep, et]
  by_cases q : z 104 p < t
  · rw [if_pos (by rw [zI_lt (hz _ _) tr]; exact q)]
    simp only [zI_nat pr, zI_nat tr, zI_nat wr, zst hp.1, zst ht.1, zst hw.1, hI_us, zI_add]
    refine xw_ret h0r (zRR_up (zRR_up (zRR_up (zRR_up (zRR_up hz _ _ tr) _ _ pr) _ _ (hz _ _)) _ _ wr) _ _ (zR_s (by omega))) ⟨lPut B t (p :: B t), ?_⟩
    obtain ⟨z', hz'⟩ : ∃ z', z' = zup (zup (zup (zup (zup z 104 p t) 106 (z 100 13) p) 107 (z 100 13) (z 105 t)) 105 t (z 100 13)) 100 13 (z 100 13 + 1) := ⟨_, rfl⟩
    rw [← hz']
    have e104 : z' 104 = mPut (z 104) p t := by rw [hz', zup_ne _ _ _ (by decide), zup_ne _ _ _ (by decide), zup_ne _ _ _ (by decide), zup_ne _ _ _ (by decide), zup_row]
    have e106 : z' 106 = mPut (z 106) (z 100 13) p := by rw [hz', zup_ne _ _ _ (by decide), zup_ne _ _ _ (by decide), zup_ne _ _ _ (by decide), zup_row, zup_ne _ _ _ (by decide)]
    have e107 : z' 107 = mPut (z 107) (z 100 13) (z 105 t) := by rw [hz', zup_ne _ _ _ (by decide), zup_ne _ _ _ (by decide), zup_row, zup_ne _ _ _ (by decide), zup_ne _ _ _ (by decide)]
    have e105 : z' 105 = mPut (z 105) t (z 100 13) := by rw [hz', zup_ne _ _ _ (by decide), zup_row, zup_ne _ _ _ (by decide), zup_ne _ _ _ (by decide), zup_ne _ _ _ (by decide)]
    have e13 : z' 100 13 = z 100 13 + 1 := by rw [hz', zup_row, mPut_s]
    have hne : ∀ j, 0 ≤ j → j < z 100 13 → z' 106 j = z 106 j ∧ z' 107 j = z 107 j := by
      intro j j0 j1
      rw [e106, e107, mPut_o (by omega), mPut_o (by omega)]
      exact ⟨rfl, rfl⟩
    have hms : ∀ c L, msz z c L → msz z' c L := fun c L hh => msg_c (by omega) hne L c hh
    have up : ∀ k, z 104 k ≤ z' 104 k := by
      intro k
      rw [e104]
      unfold mPut
      split
      · rename_i e; rw [e]; omega
      · omega
    have nin : p ∉ B t := by
      intro hm
      have := ((h t ht.1 ht.2).2.2 p hm).2
      omega
    refine ⟨fun H h0 h1 => ?_, fun x => ?_, fun K x hx => ?_, fun _ => by rw [lPut_s]; exact List.mem_cons_self .., fun K hK => lPut_o (by omega), by omega, hms, fun j j1 => ?_, ?_, ?_⟩
    · obtain ⟨g1, g2, g3⟩ := h H h0 h1
      by_cases e : H = t
      · subst e
        rw [lPut_s]
        refine ⟨⟨?_, ?_, ?_⟩, List.nodup_cons.mpr ⟨nin, g2⟩, fun k hk => ?_⟩
        · rw [e105, mPut_s, e13]; omega
        · rw [e105, mPut_s, e106, mPut_s]
        · have e9 : z' 107 (z 100 13) = z 105 H := by rw [e107, mPut_s]
          rw [e105, mPut_s, e9]
          exact hms _ _ g1
        · rcases List.mem_cons.mp hk with w | w
          · rw [w, e104, mPut_s]; exact ⟨hp, Int.le_refl _⟩
          · have := g3 k w
            exact ⟨this.1, Int.le_trans this.2 (up k)⟩
      · rw [lPut_o e, e105, mPut_o e]
        refine ⟨hms _ _ g1, g2, fun k hk => ?_⟩
        have := g3 k hk
        exact ⟨this.1, Int.le_trans this.2 (up k)⟩
    · rw [e104]
      unfold mPut
      by_cases e : x = p
      · rw [if_pos e, if_pos ⟨e, q⟩]
      · rw [if_neg e, if_neg (fun y => e y.1)]
    · by_cases e : K = t
      · subst e; rw [lPut_s]; exact List.mem_cons_of_mem _ hx
      · rw [lPut_o e]; exact hx
    · rw [e107, mPut_o (by omega)]
    · rw [hz']
      exact fr_up (fr_up (fr_up (fr_up (fr_up (fr_rf _ _) _ _ rfl) _ _ rfl) _ _ rfl) _ _ rfl) _ _ rfl
    · rw [hz']
      exact ff_up (ff_ne (ff_ne (ff_ne (ff_ne (ff_rf _ _) _ _ (by decide)) _ _ (by decide)) _ _ (by decide)) _ _ (by decide)) _ rfl
  · rw [if_neg (by rw [zI_lt (hz _ _) tr]; exact q)]
    refine xw_ret h0r hz ⟨B, h, fun x => ?_, fun _ _ y => y, fun y => absurd y q, fun _ _ => rfl, ⟨Int.le_refl _, by omega⟩, fun _ _ y => y, fun _ _ => rfl, fr_rf _ _, ff_rf _ _⟩
    rw [if_neg (fun y => q y.2)]
def SM (v : Int → Int) (c0 : crft) (z : zH) (B : Int → List Int) (H : Int) : Prop := MC z B ∧ (∀ q, 0 ≤ q → q < 768 → 0 ≤ z 104 q → z 104 q ≤ 99 ∧ Rch v c0 (unp q (z 104 q))) ∧ ∀ q, 0 ≤ q → q < 768 → 0 ≤ z 104 q → z 104 q < H → q ∈ B (z 104 q)
theorem SM_off {v : Int → Int} {c0 : crft} {z z' : zH} {B B' : Int → List Int} {H p t : Int} (h : SM v c0 z B H) (ht : 0 ≤ t ∧ t ≤ 99) (hr : Rch v c0 (unp p t)) (o : MOff z z' B B' p t) : SM v c0 z' B' H := by
  obtain ⟨h1, h2, h3⟩ := h
  obtain ⟨o1, o2, o3, o4, -⟩ := o
  refine ⟨o1, fun q q0 q1 => ?_, fun q q0 q1 => ?_⟩
  · rw [o2]
    by_cases e : q = p ∧ z 104 p < t
    · rw [if_pos e]
      intro _
      rw [e.1]
      exact ⟨ht.2, hr⟩
    · rw [if_neg e]
      exact h2 q q0 q1
  · rw [o2]
    by_cases e : q = p ∧ z 104 p < t
    · rw [if_pos e]
      intro _ _
      rw [e.1]
      exact o4 e.2
    · rw [if_neg e]
      intro b0 b1
      exact o3 _ q (h3 q q0 q1 b0 b1)
theorem MC_t {z z' : zH} {B : Int → List Int} (h : MC z B) (e4 : z' 104 = z 104) (e5 : z' 105 = z 105) (e6 : z' 106 = z 106) (e7 : z' 107 = z 107) (e13 : z' 100 13 = z 100 13) : MC z' B := by
  unfold MC msz
  rw [e4, e5, e6, e7, e13]
  exact h
theorem SM_t {v : Int → Int} {c0 : crft} {z z' : zH} {B : Int → List Int} {H : Int} (h : SM v c0 z B H) (e4 : z' 104 = z 104) (e5 : z' 105 = z 105) (e6 : z' 106 = z 106) (e7 : z' 107 = z 107) (e13 : z' 100 13 = z 100 13) : SM v c0 z' B H := by
  unfold SM
  rw [e4]
  exact ⟨MC_t h.1 e4 e5 e6 e7 e13, h.2⟩
