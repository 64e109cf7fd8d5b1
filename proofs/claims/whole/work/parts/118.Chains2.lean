/-! PURE, part 48: the chains of all HEIGHTS -/
def Chn (z : zH) (L : Int → List Int) : Prop := ∀ H, 0 ≤ H → H ≤ 99 → seg (z 53) (z 54) (z 52 H) (-1) (L H) ∧ (L H).Nodup ∧ ∀ p, p ∈ L H → (0 ≤ p ∧ p < 768) ∧ z 51 p = H
def lPut (L : Int → List Int) (H : Int) (l : List Int) : Int → List Int := fun K => if K = H then l else L K
theorem lPut_s {L : Int → List Int} {H : Int} {l : List Int} : lPut L H l H = l := by unfold lPut; rw [if_pos rfl]
theorem lPut_o {L : Int → List Int} {H K : Int} {l : List Int} (h : K ≠ H) : lPut L H l K = L K := by unfold lPut; rw [if_neg h]
theorem seg_hd {nx pv : Int → Int} {c r : Int} {L : List Int} (h : seg nx pv c r L) : c = -1 ∨ c ∈ L := by
  cases L with
  | nil => left; exact h
  | cons p ps => right; rw [h.1]; exact List.mem_cons_self ..
theorem Chn_push {z z' : zH} {L : Int → List Int} (h : Chn z L) {p H : Int} (hp : 0 ≤ p ∧ p < 768) (hH : 0 ≤ H ∧ H ≤ 99) (hn : ∀ K, 0 ≤ K → K ≤ 99 → p ∉ L K) (h51 : z 51 p = H) (e53 : z' 53 = mPut (z 53) p (z 52 H)) (e54 : z' 54 = pvPut (mPut (z 54) p (-1)) (z 52 H) p) (e52 : z' 52 = mPut (z 52) H p) (e51 : z' 51 = z 51) : Chn z' (lPut L H (p :: L H)) := by
  intro K k0 k1
  obtain ⟨g1, g2, g3⟩ := h K k0 k1
  obtain ⟨w1, w2, w3⟩ := h H hH.1 hH.2
  rw [e51, e52, e53, e54]
  by_cases q : K = H
  · subst q
    rw [lPut_s, mPut_s]
    refine ⟨seg_push g2 (hn K k0 k1) (by omega) (fun q hq => by have := (g3 q hq).1; omega) g1, List.nodup_cons.mpr ⟨hn K k0 k1, g2⟩, fun q hq => ?_⟩
    rcases List.mem_cons.mp hq with e | e
    · rw [e]; exact ⟨hp, h51⟩
    · exact g3 q e
  · rw [lPut_o q, mPut_o q]
    refine ⟨seg_c _ _ _ (fun x hx => ?_) g1, g2, g3⟩
    have x1 := g3 x hx
    have x2 : x ≠ p := fun e => hn K k0 k1 (e ▸ hx)
    have x3 : x ≠ z 52 H := by
      rcases seg_hd w1 with e | e
      · rw [e]; omega
      · intro w
        have := (w3 _ e).2
        rw [← w, x1.2] at this
        exact q this
    exact ⟨mPut_o x2, by rw [pvPut_o x3, mPut_o x2]⟩
theorem Chn_pop {z z' : zH} {L : Int → List Int} (h : Chn z L) {p H : Int} (hH : 0 ≤ H ∧ H ≤ 99) (hp : p ∈ L H) (e54 : z' 54 = pvPut (z 54) (z 53 p) (z 54 p)) (e1 : z 54 p = -1 → z' 52 = mPut (z 52) H (z 53 p) ∧ z' 53 = z 53) (e2 : z 54 p ≠ -1 → z' 52 = z 52 ∧ z' 53 = mPut (z 53) (z 54 p) (z 53 p)) (e51 : z' 51 = z 51) : ∃ A B, L H = A ++ p :: B ∧ Chn z' (lPut L H (A ++ B)) := by
  obtain ⟨w1, w2, w3⟩ := h H hH.1 hH.2
  obtain ⟨A, B, hL⟩ := List.append_of_mem hp
  refine ⟨A, B, hL, ?_⟩
  have hx : z 53 p = -1 ∨ z 53 p ∈ L H := by
    rcases seg_nx A _ _ (hL ▸ w1) with e | e
    · left; exact e
    · right; rw [hL]; exact List.mem_append_right _ (List.mem_cons_of_mem _ e)
  have hv : (A = [] ∧ z 54 p = -1) ∨ (A ≠ [] ∧ z 54 p ∈ L H) := by
    cases A with
    | nil =>
      left
      rw [hL] at w1
      exact ⟨rfl, w1.2.1⟩
    | cons a A =>
      right
      rw [hL] at w1
      refine ⟨by simp, ?_⟩
      rw [hL]
      rcases List.mem_cons.mp (seg_pv A _ _ a w1) with e | e
      · rw [e]; exact List.mem_cons_self ..
      · exact List.mem_cons_of_mem _ (List.mem_append_left _ e)
  have sub : ∀ q, q ∈ A ++ B → q ∈ L H := by
    intro q hq
    rw [hL]
    rcases List.mem_append.mp hq with e | e
    · exact List.mem_append_left _ e
    · exact List.mem_append_right _ (List.mem_cons_of_mem _ e)
  have nd : (A ++ B).Nodup := by
    rw [hL] at w2
    exact List.Nodup.sublist (List.Sublist.append (List.Sublist.refl A) (List.sublist_cons_self p B)) w2
  have h0 : ∀ q, q ∈ L H → q ≠ -1 := fun q hq => by have := (w3 q hq).1; omega
  intro K k0 k1
  obtain ⟨g1, g2, g3⟩ := h K k0 k1
  rw [e51]
  by_cases q : K = H
  · subst q
    rw [lPut_s]
    refine ⟨?_, nd, fun x hxm => w3 x (sub x hxm)⟩
    rw [hL] at w1 w2 h0
    rcases hv with ⟨ha, hv⟩ | ⟨ha, hv⟩
    · obtain ⟨f1, f2⟩ := e1 hv
      subst ha
      rw [f1, f2, e54, mPut_s, hv]
      exact seg_pop w2 (fun q hq => h0 q (List.mem_cons_of_mem _ hq)) w1
    · obtain ⟨f1, f2⟩ := e2 (fun e => by have := (w3 _ hv).1; omega)
      rw [f1, f2, e54]
      cases A with
      | nil => exact absurd rfl ha
      | cons a A => exact seg_mid A _ _ a w2 h0 w1
  · rw [lPut_o q]
    have dis : ∀ x, x ∈ L K → ∀ y, (y = -1 ∨ y ∈ L H) → x ≠ y := by
      intro x hx y hy e
      have x1 := g3 x hx
      rcases hy with w | w
      · omega
      · have := (w3 y w).2
        rw [← e, x1.2] at this
        exact q this
    have hv2 : z 54 p = -1 ∨ z 54 p ∈ L H := by
      rcases hv with ⟨_, e⟩ | ⟨_, e⟩
      · left; exact e
      · right; exact e
    refine ⟨?_, g2, g3⟩
    by_cases w : z 54 p = -1
    · obtain ⟨f1, f2⟩ := e1 w
      rw [f1, f2, e54, mPut_o q]
      exact seg_c _ _ _ (fun x hxm => ⟨rfl, pvPut_o (dis x hxm _ hx)⟩) g1
    · obtain ⟨f1, f2⟩ := e2 w
      rw [f1, f2, e54]
      exact seg_c _ _ _ (fun x hxm => ⟨mPut_o (dis x hxm _ hv2), pvPut_o (dis x hxm _ hx)⟩) g1
