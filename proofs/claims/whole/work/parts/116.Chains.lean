/-! PURE, part 46: chains, in thought -/
def seg (nx pv : Int → Int) : Int → Int → List Int → Prop
  | c, _, [] => c = -1
  | c, r, p :: ps => c = p ∧ pv p = r ∧ seg nx pv (nx p) p ps
theorem seg_c {nx pv nx' pv' : Int → Int} : ∀ (L : List Int) (c r : Int), (∀ q, q ∈ L → nx' q = nx q ∧ pv' q = pv q) → seg nx pv c r L → seg nx' pv' c r L := by
  intro L
  induction L with
  | nil => intro c r _ h; exact h
  | cons p ps ih =>
    intro c r hq h
    obtain ⟨h1, h2, h3⟩ := h
    have e := hq p (List.mem_cons_self ..)
    refine ⟨h1, by rw [e.2]; exact h2, ?_⟩
    rw [e.1]
    exact ih _ _ (fun q hqm => hq q (List.mem_cons_of_mem _ hqm)) h3
theorem mPut_s (f : Int → Int) (k v : Int) : mPut f k v k = v := by unfold mPut; rw [if_pos rfl]
theorem mPut_o {f : Int → Int} {k v j : Int} (h : j ≠ k) : mPut f k v j = f j := by unfold mPut; rw [if_neg h]
def pvPut (pv : Int → Int) (c p : Int) : Int → Int := if c = -1 then pv else mPut pv c p
theorem pvPut_s {pv : Int → Int} {c p : Int} (h : c ≠ -1) : pvPut pv c p c = p := by unfold pvPut; rw [if_neg h, mPut_s]
theorem pvPut_o {pv : Int → Int} {c p j : Int} (h : j ≠ c) : pvPut pv c p j = pv j := by
  unfold pvPut
  split
  · rfl
  · exact mPut_o h
/-- the rest of a chain gets another place ahead -/
theorem seg_r {nx pv nx' : Int → Int} {c r p : Int} {L : List Int} (hn : L.Nodup) (h0 : ∀ q, q ∈ L → q ≠ -1) (hx : ∀ q, q ∈ L → nx' q = nx q) (h : seg nx pv c r L) : seg nx' (pvPut pv c p) c p L := by
  cases L with
  | nil => exact h
  | cons q ps =>
    obtain ⟨h1, h2, h3⟩ := h
    subst h1
    have nd := List.nodup_cons.mp hn
    refine ⟨rfl, pvPut_s (h0 c (List.mem_cons_self ..)), ?_⟩
    rw [hx c (List.mem_cons_self ..)]
    refine seg_c ps _ _ (fun q hq => ⟨hx q (List.mem_cons_of_mem _ hq), pvPut_o ?_⟩) h3
    intro e
    subst e
    exact nd.1 hq
theorem seg_push {nx pv : Int → Int} {c p : Int} {L : List Int} (hn : L.Nodup) (hp : p ∉ L) (p0 : p ≠ -1) (h0 : ∀ q, q ∈ L → q ≠ -1) (h : seg nx pv c (-1) L) : seg (mPut nx p c) (pvPut (mPut pv p (-1)) c p) p (-1) (p :: L) := by
  have hc : c ≠ p := by
    cases L with
    | nil => rw [show c = -1 from h]; exact fun e => p0 e.symm
    | cons q ps =>
      rw [h.1]
      intro e
      subst e
      exact hp (List.mem_cons_self ..)
  have h' : seg nx (mPut pv p (-1)) c (-1) L := seg_c L _ _ (fun q hq => ⟨rfl, mPut_o (fun e => hp (e ▸ hq))⟩) h
  refine ⟨rfl, ?_, ?_⟩
  · rw [pvPut_o (fun e => hc e.symm), mPut_s]
  · rw [mPut_s]
    exact seg_r hn h0 (fun q hq => mPut_o (fun e => hp (e ▸ hq))) h'
theorem seg_pop {nx pv : Int → Int} {c p : Int} {B : List Int} (hn : (p :: B).Nodup) (h0 : ∀ q, q ∈ B → q ≠ -1) (h : seg nx pv c (-1) (p :: B)) : seg nx (pvPut pv (nx p) (-1)) (nx p) (-1) B :=
  seg_r (List.nodup_cons.mp hn).2 h0 (fun _ _ => rfl) h.2.2
theorem seg_pv {nx pv : Int → Int} {p : Int} {B : List Int} : ∀ (A : List Int) (c r h : Int), seg nx pv c r (h :: (A ++ p :: B)) → pv p ∈ h :: A := by
  intro A
  induction A with
  | nil => intro c r h s; rw [s.2.2.2.1]; exact List.mem_cons_self ..
  | cons a A ih =>
    intro c r h s
    exact List.mem_cons_of_mem _ (ih _ _ a s.2.2)
theorem seg_nx {nx pv : Int → Int} {p : Int} {B : List Int} : ∀ (A : List Int) (c r : Int), seg nx pv c r (A ++ p :: B) → nx p = -1 ∨ nx p ∈ B := by
  intro A
  induction A with
  | nil =>
    intro c r s
    have := s.2.2
    cases B with
    | nil => left; exact this
    | cons b B => right; rw [this.1]; exact List.mem_cons_self ..
  | cons a A ih => intro c r s; exact ih _ _ s.2.2
theorem seg_mid {nx pv : Int → Int} {p : Int} {B : List Int} : ∀ (A : List Int) (c r h : Int), (h :: (A ++ p :: B)).Nodup → (∀ q, q ∈ h :: (A ++ p :: B) → q ≠ -1) → seg nx pv c r (h :: (A ++ p :: B)) → seg (mPut nx (pv p) (nx p)) (pvPut pv (nx p) (pv p)) c r (h :: (A ++ B)) := by
  intro A
  induction A with
  | nil =>
    intro c r h hn h0 s
    obtain ⟨s1, s2, s3⟩ := s
    obtain ⟨t1, t2, t3⟩ := s3
    have n1 := List.nodup_cons.mp hn
    have n2 := List.nodup_cons.mp n1.2
    have hx := seg_nx (nx := nx) (pv := pv) (p := p) (B := B) [] (nx h) h ⟨t1, t2, t3⟩
    have hne : h ≠ nx p := by
      rcases hx with e | e
      · rw [e]; exact h0 h (List.mem_cons_self ..)
      · intro w; exact n1.1 (List.mem_cons_of_mem _ (w ▸ e))
    rw [t2]
    refine ⟨s1, by rw [pvPut_o hne]; exact s2, ?_⟩
    rw [mPut_s]
    exact seg_r n2.2 (fun q hq => h0 q (List.mem_cons_of_mem _ (List.mem_cons_of_mem _ hq))) (fun q hq => mPut_o (fun e => n1.1 (List.mem_cons_of_mem _ (e ▸ hq)))) t3
  | cons a A ih =>
    intro c r h hn h0 s
    obtain ⟨s1, s2, s3⟩ := s
    have n1 := List.nodup_cons.mp hn
    have hp := seg_pv A _ _ a s3
    have hx := seg_nx (a :: A) _ _ s3
    have e1 : h ≠ pv p := by
      intro w
      apply n1.1
      rw [w]
      rcases List.mem_cons.mp hp with e | e
      · rw [e]; exact List.mem_cons_self ..
      · exact List.mem_cons_of_mem _ (List.mem_append_left _ e)
    have e2 : h ≠ nx p := by
      rcases hx with e | e
      · rw [e]; exact h0 h (List.mem_cons_self ..)
      · intro w
        exact n1.1 (List.mem_cons_of_mem _ (List.mem_append_right _ (List.mem_cons_of_mem _ (w ▸ e))))
    refine ⟨s1, by rw [pvPut_o e2]; exact s2, ?_⟩
    rw [mPut_o e1]
    exact ih _ _ a n1.2 (fun q hq => h0 q (List.mem_cons_of_mem _ hq)) s3
