/-! THE FIRST HEAP, part 3: the model's cells -/
theorem n_s110 (gs : Nat → Nat) : ∀ i : Nat, i < 4 → (va_up (va_up (va_up (va_up (fun _ => none) ((0 : Int32)).toNatClampNeg (some (gs 1))) ((1 : Int32)).toNatClampNeg (some (gs 2))) ((2 : Int32)).toNatClampNeg (some (gs 3))) ((3 : Int32)).toNatClampNeg (some (gs 4))) i = (fun i => some (gs (scX 110 i))) i := by
  intro i hi
  rcases (show i = 0 ∨ i = 1 ∨ i = 2 ∨ i = 3 by omega) with z | z | z | z <;> subst z <;> rfl
theorem n_s111 (gs : Nat → Nat) : ∀ i : Nat, i < 7 → (va_up (va_up (va_up (va_up (va_up (va_up (va_up (fun _ => none) ((0 : Int32)).toNatClampNeg (some (gs 5))) ((1 : Int32)).toNatClampNeg (some (gs 6))) ((2 : Int32)).toNatClampNeg (some (gs 7))) ((3 : Int32)).toNatClampNeg (some (gs 8))) ((4 : Int32)).toNatClampNeg (some (gs 9))) ((5 : Int32)).toNatClampNeg (some (gs 10))) ((6 : Int32)).toNatClampNeg (some (gs 11))) i = (fun i => some (gs (scX 111 i))) i := by
  intro i hi
  rcases (show i = 0 ∨ i = 1 ∨ i = 2 ∨ i = 3 ∨ i = 4 ∨ i = 5 ∨ i = 6 by omega) with z | z | z | z | z | z | z <;> subst z <;> rfl
theorem n_w12 (G : xG) : ∃ X Y : va_W, ∃ e f e' f' : va_E, BX12 (gcl G) (gas G) (gcl G 7) (gcl G 7) (fun z => gad G (100 + z)) = X ++ (gad G 110, e) :: (gad G 111, f) :: Y ∧ xwd G 100 24 n0H = X ++ (gad G 110, e') :: (gad G 111, f') :: Y ∧ (∀ H, va_at (gD G) clX (gad G 110, e) H → va_at (gD G) clX (gad G 110, e') H) ∧ ∀ H, va_at (gD G) clX (gad G 111, f) H → va_at (gD G) clX (gad G 111, f') H := by
  refine ⟨xwd G 100 10 n0H, xwd G 112 12 n0H, _, _, xen G n0H 110, xen G n0H 111, ?_, ?_, fun H h => n_cellq (n_s110 (gas G)) h, fun H h => n_cellq (n_s111 (gas G)) h⟩
  · rfl
  · have a1 : xwd G 100 24 n0H = xwd G 100 10 n0H ++ xwd G 110 14 n0H := xwd_app G 100 10 14 n0H
    have a2 : xwd G 110 14 n0H = xwd G 110 2 n0H ++ xwd G 112 12 n0H := xwd_app G 110 2 12 n0H
    rw [a1, a2]
    rfl
theorem n_P12 {G : xG} {Z : va_W} {H : Heap} (hP : va_P (gD G) clX (Z ++ BX12 (gcl G) (gas G) (gcl G 7) (gcl G 7) (fun z => gad G (100 + z))) H) : va_P (gD G) clX (Z ++ xwd G 100 24 n0H) H := by
  obtain ⟨X, Y, e, f, e', f', h1, h2, h3, h4⟩ := n_w12 G
  rw [h1, ← List.append_assoc] at hP
  rw [h2, ← List.append_assoc]
  have q1 := n_fixP (h3 H) hP
  have e1 : ∀ a b : Nat × va_E, (Z ++ X) ++ a :: b :: Y = ((Z ++ X) ++ [a]) ++ b :: Y := fun a b => by simp
  rw [e1] at q1 ⊢
  exact n_fixP (h4 H) q1
theorem n_D12 {G : xG} {Z : va_W} {A : Nat → Prop} (hD : va_D A (Z ++ BX12 (gcl G) (gas G) (gcl G 7) (gcl G 7) (fun z => gad G (100 + z)))) : va_D A (Z ++ xwd G 100 24 n0H) := by
  obtain ⟨X, Y, e, f, e', f', h1, h2, h3, h4⟩ := n_w12 G
  rw [h1, ← List.append_assoc] at hD
  rw [h2, ← List.append_assoc]
  have q1 := n_fixD (e' := e') hD
  have e1 : ∀ a b : Nat × va_E, (Z ++ X) ++ a :: b :: Y = ((Z ++ X) ++ [a]) ++ b :: Y := fun a b => by simp
  rw [e1] at q1 ⊢
  exact n_fixD q1
theorem n_P11 {G : xG} {Z : va_W} {H : Heap} (hP : va_P (gD G) clX (BX11 (gcl G) (gcl G 6) (gad G) ++ Z) H) : va_P (gD G) clX (xwd G 0 81 n0H ++ Z) H := by
  obtain ⟨X, Y, e, e', h1, h2, h3⟩ := n_w11 G
  rw [h1, List.append_assoc, List.cons_append] at hP
  rw [h2, List.append_assoc, List.cons_append]
  exact n_fixP (h3 H) hP
theorem n_D11 {G : xG} {Z : va_W} {A : Nat → Prop} (hD : va_D A (BX11 (gcl G) (gcl G 6) (gad G) ++ Z)) : va_D A (xwd G 0 81 n0H ++ Z) := by
  obtain ⟨X, Y, e, e', h1, h2, h3⟩ := n_w11 G
  rw [h1, List.append_assoc, List.cons_append] at hD
  rw [h2, List.append_assoc, List.cons_append]
  exact n_fixD hD
theorem n_lay0 : xlay 0 81 [1, 2, 6] := by
  have h1 : ∀ i, i < 81 → (kdX (0 + i) = 1 ∨ kdX (0 + i) = 2 ∨ kdX (0 + i) = 3 ∨ kdX (0 + i) = 6 ∨ kdX (0 + i) = 7 ∨ (16 ≤ kdX (0 + i) ∧ kdX (0 + i) < 29)) := by decide +kernel
  have h2 : ∀ i, i < 81 → (kdX (0 + i) < 16 → kdX (0 + i) ∈ [1, 2, 6]) := by decide +kernel
  have h3 : ∀ i, i < 81 → (16 ≤ kdX (0 + i) → ∀ q ∈ fsX (kdX (0 + i)), q.1 = 0 ∨ (0 ≤ (0 + i) + q.2.2 ∧ (0 + i) + q.2.2 < 0 + 81 ∧ kdX ((0 + i) + q.2.2) = q.2.1)) := by decide +kernel
  have h4 : ∀ i, i < 81 → (kdX (0 + i) = 6 → ∀ j, j < lenX (0 + i) → 0 ≤ (0 + i) + 1 + 2 * j ∧ (0 + i) + 1 + 2 * j < 0 + 81 ∧ kdX ((0 + i) + 1 + 2 * j) = 24) := by decide +kernel
  have h5 : ∀ i, i < 81 → (kdX (0 + i) = 7 → ∀ j, j < lenX (0 + i) → scX (0 + i) j < 16) := by decide +kernel
  have h6 : ∀ i, i < 81 → lenX (0 + i) < 2147483648 := by decide +kernel
  intro o g1 g2
  obtain ⟨i, rfl⟩ : ∃ i, o = 0 + i := ⟨o - 0, by omega⟩
  have hi : i < 81 := by omega
  exact ⟨h1 i hi, h2 i hi, h3 i hi, h4 i hi, h5 i hi, h6 i hi⟩
theorem n_lay100 : xlay 100 24 [1, 3, 7] := by
  have h1 : ∀ i, i < 24 → (kdX (100 + i) = 1 ∨ kdX (100 + i) = 2 ∨ kdX (100 + i) = 3 ∨ kdX (100 + i) = 6 ∨ kdX (100 + i) = 7 ∨ (16 ≤ kdX (100 + i) ∧ kdX (100 + i) < 29)) := by decide +kernel
  have h2 : ∀ i, i < 24 → (kdX (100 + i) < 16 → kdX (100 + i) ∈ [1, 3, 7]) := by decide +kernel
  have h3 : ∀ i, i < 24 → (16 ≤ kdX (100 + i) → ∀ q ∈ fsX (kdX (100 + i)), q.1 = 0 ∨ (100 ≤ (100 + i) + q.2.2 ∧ (100 + i) + q.2.2 < 100 + 24 ∧ kdX ((100 + i) + q.2.2) = q.2.1)) := by decide +kernel
  have h4 : ∀ i, i < 24 → (kdX (100 + i) = 6 → ∀ j, j < lenX (100 + i) → 100 ≤ (100 + i) + 1 + 2 * j ∧ (100 + i) + 1 + 2 * j < 100 + 24 ∧ kdX ((100 + i) + 1 + 2 * j) = 24) := by decide +kernel
  have h5 : ∀ i, i < 24 → (kdX (100 + i) = 7 → ∀ j, j < lenX (100 + i) → scX (100 + i) j < 16) := by decide +kernel
  have h6 : ∀ i, i < 24 → lenX (100 + i) < 2147483648 := by decide +kernel
  intro o g1 g2
  obtain ⟨i, rfl⟩ : ∃ i, o = 100 + i := ⟨o - 100, by omega⟩
  have hi : i < 24 := by omega
  exact ⟨h1 i hi, h2 i hi, h3 i hi, h4 i hi, h5 i hi, h6 i hi⟩
