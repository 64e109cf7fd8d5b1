/-! PURE, part 49: a place is offered -/
theorem Chn_51 {z : zH} {L : Int → List Int} (h : Chn z L) {p t : Int} (hn : ∀ K, 0 ≤ K → K ≤ 99 → p ∉ L K) : Chn (zup z 51 p t) L := by
  intro K k0 k1
  obtain ⟨g1, g2, g3⟩ := h K k0 k1
  rw [zup_ne _ _ _ (by decide), zup_ne _ _ _ (by decide), zup_ne _ _ _ (by decide)]
  refine ⟨g1, g2, fun q hq => ?_⟩
  have hne : ¬ ((51 : Nat) = 51 ∧ q = p) := by
    intro x
    rw [x.2] at hq
    exact hn K k0 k1 hq
  rw [zup_at, if_neg hne]
  exact g3 q hq
theorem Chn_hd {z : zH} {L : Int → List Int} (h : Chn z L) {H : Int} (hH : 0 ≤ H ∧ H ≤ 99) : z 52 H = -1 ∨ (0 ≤ z 52 H ∧ z 52 H < 768) := by
  obtain ⟨g1, g2, g3⟩ := h H hH.1 hH.2
  rcases seg_hd g1 with e | e
  · left; exact e
  · right; exact (g3 _ e).1
/-- what an offer makes of the best and of the chains -/
def Off (z z' : zH) (L L' : Int → List Int) (p t : Int) : Prop := Chn z' L' ∧ (∀ q, z' 51 q = if q = p ∧ z 51 p < t then t else z 51 q) ∧ (∀ K q, 0 ≤ K → K ≤ 99 → q ≠ p → (q ∈ L' K ↔ q ∈ L K)) ∧ (z 51 p < t → p ∈ L' t) ∧ (t ≤ z 51 p → L' = L) ∧ (∀ K, t < K → L' K = L K) ∧ fr [51, 52, 53, 54] z z'
theorem c_putNew (d : Nat) {z : zH} (hz : zRR z) {L : Int → List Int} (h : Chn z L) {p t : Int} (hp : 0 ≤ p ∧ p < 768) (ht : 0 ≤ t ∧ t ≤ 99) (hn : ∀ K, 0 ≤ K → K ≤ 99 → p ∉ L K) : xw (cM (d + 2) 52 [xR 22 50, xI (zI p), xI (zI t)] (hI (zup z 51 p t))) (fun _ z' => Chn z' (lPut L t (p :: L t)) ∧ z' 51 = mPut (z 51) p t ∧ fr [51, 52, 53, 54] z z') := by
  have h1 := Chn_51 h (t := t) hn
  have y : zRR (zup z 51 p t) := zRR_up hz _ _ (zR_s (by omega))
  refine xw_m (c_chain d y hp ht (Chn_hd h1 ht)) ?_
  intro r z1 hr hz1 ⟨e1, e2, e3, f⟩
  have e51 : z1 51 = (zup z 51 p t) 51 := f 51 rfl
  refine ⟨Chn_push h1 hp ht hn (by rw [zup_at, if_pos ⟨rfl, rfl⟩]) e1 e2 e3 e51, by rw [e51, zup_row], ?_⟩
  exact fr_tr (fr_up (fr_rf [51, 52, 53, 54] _) _ _ rfl) (fr_mono f rfl) rfl
theorem c_offer (d : Nat) {z : zH} (hz : zRR z) {L : Int → List Int} (h : Chn z L) {a b s p t : Int} (ha : 0 ≤ a ∧ a < 64) (hb : 0 ≤ b ∧ b ≤ 3) (hs : 0 ≤ s ∧ s ≤ 2) (hp : p = 12 * a + 3 * b + s) (ht : 0 ≤ t ∧ t ≤ 99) (hw : 0 ≤ z 51 p → z 51 p < t → p ∈ L (z 51 p)) : xw (cM (d + 3) 48 [xR 22 50, xI (zI a), xI (zI b), xI (zI s), xI (zI t)] (hI z)) (fun _ z' => ∃ L', Off z z' L L' p t) := by
  have h0r : zR 0 := zR_s (by omega)
  have p0 : 0 ≤ p ∧ p < 768 := by omega
  have pr : zR p := zR_s (by omega)
  have tr : zR t := zR_s (by omega)
  have br : zR (z 51 p) := hz _ _
  have bp := bnd (n := 768) p0.1 (by omega) (by omega)
  have ep : hI z 51 (zI p).toNatClampNeg = zI (z 51 p) := by rw [zI_nat pr, zld p0.1]
  rw [e_X6_offer, e_X6_placeOf]
  simp only [zLit, zI_mul, zI_add, xbd_n]
  rw [show a * 12 + b * 3 + s = p by omega]
  rw [y_isPlace _ p0, xbd_m, if_neg nI10, y_isHeight _ ht, xbd_m, if_neg nI10]
  simp only [lenX_s, if_neg bp, ep]
  by_cases q : z 51 p < t
  · rw [if_pos (by rw [zI_lt br tr]; exact q)]
    by_cases w : z 51 p < 0
    · rw [if_pos (by rw [zI_lt br h0r]; exact w)]
      have hn : ∀ K, 0 ≤ K → K ≤ 99 → p ∉ L K := by
        intro K k0 k1 hm
        have := ((h K k0 k1).2.2 p hm).2
        omega
      rw [zI_nat pr, zst p0.1]
      refine xw_k (c_putNew d hz h p0 ht hn) ?_
      intro r z1 hr hz1 ⟨c1, e1, f⟩
      refine xw_ret h0r hz1 ⟨lPut L t (p :: L t), c1, fun x => ?_, fun K x k0 k1 hx => ?_, fun _ => ?_, fun x => absurd q (by omega), fun K hK => lPut_o (by omega), f⟩
      · rw [e1]
        unfold mPut
        by_cases e : x = p
        · rw [if_pos e, if_pos ⟨e, q⟩]
        · rw [if_neg e, if_neg (fun y => e y.1)]
      · by_cases e : K = t
        · subst e
          rw [lPut_s]
          exact ⟨fun y => (List.mem_cons.mp y).resolve_left hx, fun y => List.mem_cons_of_mem _ y⟩
        · rw [lPut_o e]
      · rw [lPut_s]; exact List.mem_cons_self ..
    · rw [if_neg (by rw [zI_lt br h0r]; exact w)]
      have hin := hw (by omega) q
      have hH : 0 ≤ z 51 p ∧ z 51 p ≤ 99 := by omega
      obtain ⟨g1, g2, g3⟩ := h _ hH.1 hH.2
      have hv : z 53 p = -1 ∨ (0 ≤ z 53 p ∧ z 53 p < 768) := by
        obtain ⟨A, B, hL⟩ := List.append_of_mem hin
        rcases seg_nx A _ _ (hL ▸ g1) with e | e
        · left; exact e
        · right; exact (g3 _ (by rw [hL]; exact List.mem_append_right _ (List.mem_cons_of_mem _ e))).1
      have hv2 : z 54 p = -1 ∨ (0 ≤ z 54 p ∧ z 54 p < 768) := by
        obtain ⟨A, B, hL⟩ := List.append_of_mem hin
        rw [hL] at g1
        cases A with
        | nil => left; exact g1.2.1
        | cons a A =>
          right
          have e := seg_pv A _ _ a g1
          refine (g3 _ ?_).1
          rw [hL]
          rcases List.mem_cons.mp e with e | e
          · rw [e]; exact List.mem_cons_self ..
          · exact List.mem_cons_of_mem _ (List.mem_append_left _ e)
      refine xw_k (c_unchain d hz p0 hH hv hv2) ?_
      intro r z1 hr hz1 ⟨e1, e2, e3, f⟩
      have e51 : z1 51 = z 51 := f 51 rfl
      obtain ⟨A, B, hL, hC⟩ := Chn_pop h hH hin e1 e2 e3 e51
      have hn : ∀ K, 0 ≤ K → K ≤ 99 → p ∉ lPut L (z 51 p) (A ++ B) K := by
        intro K k0 k1 hm
        by_cases e : K = z 51 p
        · subst e
          rw [lPut_s] at hm
          rw [hL] at g2
          have := List.nodup_append.mp g2
          rcases List.mem_append.mp hm with x | x
          · exact this.2.2 p x p (List.mem_cons_self ..) rfl
          · exact (List.nodup_cons.mp this.2.1).1 x
        · rw [lPut_o e] at hm
          exact e ((h K k0 k1).2.2 p hm).2.symm
      rw [zI_nat pr, zst p0.1]
      refine xw_k (c_putNew d hz1 hC p0 ht hn) ?_
      intro r2 z2 hr2 hz2 ⟨c1, x1, f2⟩
      refine xw_ret h0r hz2 ⟨_, c1, fun x => ?_, fun K x k0 k1 hx => ?_, fun _ => ?_, fun x => absurd q (by omega), fun K hK => by rw [lPut_o (by omega), lPut_o (by omega)], fr_tr (fr_mono (T := [51, 52, 53, 54]) f rfl) f2 rfl⟩
      · rw [x1, e51]
        unfold mPut
        by_cases e : x = p
        · rw [if_pos e, if_pos ⟨e, q⟩]
        · rw [if_neg e, if_neg (fun y => e y.1)]
      · have mid : ∀ K, 0 ≤ K → K ≤ 99 → (x ∈ lPut L (z 51 p) (A ++ B) K ↔ x ∈ L K) := by
          intro K k0 k1
          by_cases e : K = z 51 p
          · subst e
            rw [lPut_s, hL]
            simp only [List.mem_append, List.mem_cons, hx, false_or]
          · rw [lPut_o e]
        by_cases e : K = t
        · subst e
          rw [lPut_s, List.mem_cons, ← mid K k0 k1]
          exact ⟨fun y => y.resolve_left hx, fun y => Or.inr y⟩
        · rw [lPut_o e]
          exact mid K k0 k1
      · rw [lPut_s]; exact List.mem_cons_self ..
  · rw [if_neg (by rw [zI_lt br tr]; exact q)]
    refine xw_ret h0r hz ⟨L, h, fun x => ?_, fun _ _ _ _ _ => Iff.rfl, fun x => absurd x q, fun _ => rfl, fun _ _ => rfl, fr_rf _ _⟩
    rw [if_neg (fun y => q y.2)]
