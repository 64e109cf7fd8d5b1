/-! THE LAW, part 4: what holds at its entry: classes, arrays, links -/
theorem n_inst : ∀ ci, ∀ q, xat clX ci = some q → Cond.instantiable q.1 q.2.2 ∈ xTs := by
  intro ci q hq
  match ci, hq with
  | 0, hq => cases hq; exact xin_mem (by decide +kernel)
  | 1, hq => cases hq; exact xin_mem (by decide +kernel)
  | 2, hq => cases hq; exact xin_mem (by decide +kernel)
  | 3, hq => cases hq; exact xin_mem (by decide +kernel)
  | 4, hq => cases hq; exact xin_mem (by decide +kernel)
  | 5, hq => cases hq; exact xin_mem (by decide +kernel)
  | 6, hq => cases hq; exact xin_mem (by decide +kernel)
  | 7, hq => cases hq; exact xin_mem (by decide +kernel)
  | 8, hq => cases hq; exact xin_mem (by decide +kernel)
  | 9, hq => cases hq; exact xin_mem (by decide +kernel)
  | 10, hq => cases hq; exact xin_mem (by decide +kernel)
  | 11, hq => cases hq; exact xin_mem (by decide +kernel)
  | 12, hq => cases hq; exact xin_mem (by decide +kernel)
  | n + 13, hq => cases hq
theorem n_classes {s : State} {args : Array Value} (hts : ∀ w ∈ xTs, w.before args s = true) : ∃ D : va_G, ∀ (k : Nat) (q : vw_C), clX[k]? = some q → u_Kn s q.1 q.2.1 q.2.2 (D.1 k) (D.2 k) := by
  have h : ∀ k : Nat, ∃ (c : ClassId) (iS : Nat → Nat), ∀ q, clX[k]? = some q → u_Kn s q.1 q.2.1 q.2.2 c iS := by
    intro k
    cases hq : xat clX k with
    | none => exact ⟨0, fun _ => 0, fun q h => by rw [← xat_get, hq] at h; cases h⟩
    | some q =>
      obtain ⟨h1, -⟩ := clX_ok k q hq
      obtain ⟨c, iS, hk⟩ := u_known hts h1 (hts _ (n_inst k q hq))
      exact ⟨c, iS, fun q' h' => by rw [← xat_get, hq] at h'; cases h'; exact hk⟩
  exact ⟨(fun k => (h k).choose, fun k => (h k).choose_spec.choose), fun k q hq => (h k).choose_spec.choose_spec q hq⟩
theorem n_arrc {s : State} {args : Array Value} {ty : FieldType} (h : (Cond.arrayClass ty).before args s = true) (hti : ty = .int ∨ ty = .byte ∨ ty = .boolean) : ∃ cA : ClassId, ArrOfT s cA ty ∧ va_RA s cA ty := by
  obtain ⟨c, k, comp, h1, h2, h3⟩ := Cond.arrayClass_spec h
  refine ⟨c, fun n z => ⟨fun k h => (by cases h), k, h2, comp, h3⟩, ?_⟩
  rcases hti with q | q | q <;> subst q <;> exact h1
/-- at the law's entry -/
theorem n_in {s : State} {args : Array Value} (hts : ∀ w ∈ lw_tbl, w.before args s = true) : ∃ (D : va_G) (gc : Nat → ClassId), nIn D gc s := by
  have hx : ∀ w ∈ xTs, w.before args s = true := fun w hw => hts w (List.mem_filter.mp hw).1
  obtain ⟨D, hD⟩ := n_classes hx
  obtain ⟨c1, a1, b1⟩ := n_arrc (hx (.arrayClass .int) (xin_mem (by decide +kernel))) (Or.inl rfl)
  obtain ⟨c2, a2, b2⟩ := n_arrc (hx (.arrayClass .byte) (xin_mem (by decide +kernel))) (Or.inr (Or.inl rfl))
  obtain ⟨c3, a3, b3⟩ := n_arrc (hx (.arrayClass .boolean) (xin_mem (by decide +kernel))) (Or.inr (Or.inr rfl))
  refine ⟨D, fun t => if t = 1 then c1 else if t = 2 then c2 else c3, ⟨hD, ?_⟩, ?_⟩
  · intro k q hq
    match k, hq with
    | 0, hq => cases hq; exact ⟨a1, b1⟩
    | 1, hq => cases hq; exact ⟨a2, b2⟩
    | 2, hq => cases hq; exact ⟨a3, b3⟩
    | k + 3, hq => cases hq
  · intro q hq
    have h : nNs.all (fun q => decide (Cond.methodLinkNest q.1 q.2.1 ⟨q.2.2, "<init>", "()V"⟩ "DeadStick" ∈ lw_tbl)) = true := by decide +kernel
    exact va_Nw.of rfl (hts _ (of_decide_eq_true (List.all_eq_true.mp h q hq)))
