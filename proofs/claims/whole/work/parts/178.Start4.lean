/-! THE LAW, part 7: what stands outside holds at its entry -/
theorem n_bg {s : State} {args : Array Value} (hts : ∀ w ∈ lw_tbl, w.before args s = true) (hgv : (Jvm.Cond.and given_1 narrow_1).before args s = true) : ∃ (gac gas gav : Nat → Nat) (gov : Value), gov.category = 1 ∧ ∀ (D : va_G) (gd : Nat → Nat) (gc : Nat → ClassId), xBg (D, gd, gac, gas, gav, gov, gc) (fun q => s.heap.size ≤ q) s := by
  have hfl : ∀ w ∈ nFl, w.before args s = true := flat_of_before _ hgv
  have hA : ∀ a : Nat, a < s.heap.size → ¬ (fun q : Nat => s.heap.size ≤ q) a := fun a h => Nat.not_le.mpr h
  have h1 : ∀ i : Nat, ∃ t : Nat, i < 4 → va_T .int t (klX i) (fun j => .int (kcX i j)) (fun q : Nat => s.heap.size ≤ q) s s.heap ∧ va_Z (nCs i).1 (nCs i).2 "[I" (.ref t) (fun q : Nat => s.heap.size ≤ q) s s.heap := by
    intro i
    by_cases hi : i < 4
    · obtain ⟨t, a, b⟩ := n_con (n_w1 i hi).2.2 (hfl _ (n_w1 i hi).1) (hfl _ (n_w1 i hi).2.1) (fun j hj => hfl _ (n_w2 i hi j hj)) (hts _ (n_w3 i hi).1) (hts _ (n_w3 i hi).2) hA
      exact ⟨t, fun _ => ⟨a, b⟩⟩
    · exact ⟨0, fun h => absurd h hi⟩
  have h2 : ∀ i : Nat, ∃ q : Nat × Nat, i < 16 → (Term.string (nSt i).1 (nSt i).2.1).eval args s none [] s = some (.ref q.1) ∧ va_O "java/lang/String" q.1 (fun q : Nat => s.heap.size ≤ q) s s.heap ∧ va_OF "java/lang/String" "coder" "B" (.int 0) q.1 (fun q : Nat => s.heap.size ≤ q) s s.heap ∧ va_OF "java/lang/String" "value" "[B" (.ref q.2) q.1 (fun q : Nat => s.heap.size ≤ q) s s.heap ∧ va_T .byte q.2 (slX i) (fun j => .int (sbX i j)) (fun q : Nat => s.heap.size ≤ q) s s.heap := by
    intro i
    by_cases hi : i < 16
    · obtain ⟨w1, w2, w3, w4, w5⟩ := n_w4 i hi
      obtain ⟨q, hq⟩ := n_str (A := fun q : Nat => s.heap.size ≤ q) w5 (hfl _ w1) (hfl _ w2) (hfl _ w3) (hfl _ w4) (fun j hj => hfl _ (n_w5 i hi j hj)) hA
      exact ⟨q, fun _ => hq⟩
    · exact ⟨(0, 0), fun h => absurd h hi⟩
  obtain ⟨w1, w2, w3, w4, w5, w6, w7, -, -⟩ := n_w7
  obtain ⟨v, hv, hvr⟩ := Cond.isRef_spec (hfl _ w2)
  refine ⟨fun i => (h1 i).choose, fun i => (h2 i).choose.1, fun i => (h2 i).choose.2, v, ?_, fun D gd gc => ⟨fun i hi => ((h1 i).choose_spec hi).1, fun i hi => ((h1 i).choose_spec hi).2, va_Zof (hts _ w3) (hts _ w4) (va_eqt (hfl _ w1)) hA, va_Zof (hts _ w5) (hts _ w6) hv hA, fun i hi => ((h2 i).choose_spec hi).2, fun i hi => vk_R.of (hts _ (n_w6 i hi)) ((h2 i).choose_spec hi).1, va_Nw.of rfl (hts _ w7)⟩⟩
  cases v <;> first | rfl | (simp [Value.isRef] at hvr)
