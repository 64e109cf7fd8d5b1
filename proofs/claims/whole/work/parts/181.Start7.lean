/-! THE LAW, part 10: from its entry -/
theorem n_e11 (D : va_G) (gac gas gav : Nat → Nat) (gv : Value) (gc : Nat → ClassId) (f g : Nat → Nat) (c6 c7 : ClassId) (G : xG) (hG : G = (D, (fun o => if o < 100 then f o else g (o - 100)), gac, gas, gav, gv, (fun t => if t < 4 then gc t else if t = 6 then c6 else c7))) : BX11 gc c6 f = BX11 (gcl G) (gcl G 6) (gad G) ∧ BX12 gc gas c7 c7 g = BX12 (gcl G) (G.2.2.2.1) (gcl G 7) (gcl G 7) (fun z => gad G (100 + z)) := by
  rw [hG]
  exact ⟨rfl, rfl⟩
