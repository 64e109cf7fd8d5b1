/-! CONSTRUCTORS, part 3: those that make objects -/
def BX3 (gc : Nat → ClassId) (g : Nat → Nat) : va_W := (g 0, .inr (3, [.ref (g 1), .ref (g 2), .int (0 : Int32)])) :: (([] ++ BX2 gc (fun z => g (1 + z))) ++ BX7 gc (30 : Int32) (2 : Int32) 60 (fun z => g (2 + z)))
set_option maxHeartbeats 4000000 in
set_option maxRecDepth 100000 in
theorem nX3 (l : Launch) (D : va_G) (gc : Nat → ClassId) : nMet l D gc yX3_init cX3_init 1 { frames := 2, cells := 3, slots := 69, locals := 60 } 3 [.null, .null, .int 0] [] 3 69 (BX3 gc) := by
  intro a sz
  refine Met.ofW (cc := cX3_init) (maxL := 1) (ret := none) (by decide) rfl ?_
  intro p e s m args below meth c s₁ B hml hv
  obtain ⟨rfl, hsz, hP, hI, hD0⟩ := hv
  have hx := B.exec
  have hb := B.bytes
  have hr := B.returns
  have hts0 := atoms_spec (ws := .code yX3_init cX3_init 1 none :: xTs) B.pre
  have hts : ∀ w ∈ xTs, w.before _ s = true := fun w hw => hts0 w (List.mem_cons_of_mem _ hw)
  clear hts0
  have hown : s.vm.findClass RX3 = some m.cls := findClass_of_methodNamed B.named
  have hlocks := B.notSynchronized
  have hin : meth.name = "<init>" := (name_of_methodNamed B.named B.method).1
  have hK := hI.1
  subst hsz
  have hD := hD0.self (sz := s.heap.size)
  generalize hAe : va_A [(a, .inr (3, ([.null, .null, .int 0] : List Value)))] s.heap.size = A at hD ⊢
  have hA : ∀ q : Nat, s.heap.size ≤ q → A q := fun q h => by rw [← hAe]; exact Or.inr h
  have hS : va_S A s.heap s.heap [] := va_S.rf
  have hl := lv_entry ([.ref a] : List Value) (n := 1) (Nat.le_of_ble_eq_true rfl)
  rw [lg_entry_eq]
  generalize (lg_sl ([.ref a] : List Value) ++ List.replicate (1 - (lg_sl ([.ref a] : List Value)).length) Slot.unset).toArray = ls at hl ⊢
  have hl : lv_has ls 1 [(0, .ref a)] := hl

  refine lv_aload_n hx hb (show decode cX3_init 0 = .ok (.aload_n 0, 1) by decide +kernel) rfl (lv_at hl 0 rfl) ?_
  refine W.objInit hx hb hown (hts _ (xinq_mem (q := 195) (by decide +kernel))) (hts _ (xinq_mem (q := 27) (by decide +kernel))) (hts _ (xinq_mem (q := 28) (by decide +kernel))) rfl (by rw [hml]; exact hl.1) rfl (show decode cX3_init 1 = .ok (.invokespecial 3, 3) by decide +kernel) (Nat.le_of_ble_eq_true rfl) (Nat.le_of_ble_eq_true rfl) ?_
  refine W.eq (g2 := F0 m 4 ls []) rfl ?_
  refine lv_aload_n hx hb (show decode cX3_init 4 = .ok (.aload_n 0, 1) by decide +kernel) rfl (lv_at hl 0 rfl) ?_
  refine n_new hx hb hts hown hK hP hD hS hA (ci := 2) (N := 5) rfl (xinq_mem (q := 196) (by decide +kernel)) (xinq_mem (q := 60) (by decide +kernel)) (xinq_mem (q := 4) (by decide +kernel)) [.int 0, .int 0, .int 0, .int 0, .int 0] tyX2 tyX2_ok (fun j hj => by match j, hj with | 0, _ => rfl | 1, _ => rfl | 2, _ => rfl | 3, _ => rfl | 4, _ => rfl | z + 5, h => exact absurd h (by omega)) (Nat.le_of_ble_eq_true rfl) (Nat.le_of_ble_eq_true rfl) (show decode cX3_init 5 = .ok (.new 9, 3) by decide +kernel) (fun q0 H hP hD hS => ?_)
  refine lv_dup hx hb (show decode cX3_init 8 = .ok (.dup, 1) by decide +kernel) rfl ?_
  refine n_call (rm := { frames := 1, cells := 0, slots := 0, locals := 20 }) hx hb hml hown hts hI hP hD hS hA (nX2 l D gc) (index := 11) (by decide +kernel) (xinq_mem (q := 63) (by decide +kernel)) (xinq_mem (q := 4) (by decide +kernel)) (xinq_mem (q := 62) (by decide +kernel)) rfl rfl (by decide) (by decide) hl.1 (Nat.le_of_ble_eq_true rfl) ⟨Nat.le_of_ble_eq_true rfl, Nat.le_of_ble_eq_true rfl⟩ (show decode cX3_init 9 = .ok (.invokespecial 11, 3) by decide +kernel) (fun f0 H locs h0 hP8 hD8 hS => ?_)
  subst h0
  have hP := hP8
  have hD := hD8
  clear hP8 hD8
  refine n_put (v := .ref (f0 0)) hx hb hts hown hK hP hD hS (ci := 3) (N := 3) rfl 0 (by decide) (xinq_mem (q := 200) (by decide +kernel)) (Or.inr ⟨rfl, hin, rfl⟩) (.object "DeadStick$Craft") (by decide +kernel) rfl rfl (Nat.le_of_ble_eq_true rfl) (show decode cX3_init 12 = .ok (.putfield 12, 3) by decide +kernel) (fun H locs hP hD hS => ?_)
  refine lv_aload_n hx hb (show decode cX3_init 15 = .ok (.aload_n 0, 1) by decide +kernel) rfl (lv_at hl 0 rfl) ?_
  refine n_new hx hb hts hown hK hP hD hS hA (ci := 7) (N := 4) rfl (xinq_mem (q := 198) (by decide +kernel)) (xinq_mem (q := 103) (by decide +kernel)) (xinq_mem (q := 5) (by decide +kernel)) [.int 0, .int 0, .null, .int 0] tyX7 tyX7_ok (fun j hj => by match j, hj with | 0, _ => rfl | 1, _ => rfl | 2, _ => rfl | 3, _ => rfl | z + 4, h => exact absurd h (by omega)) (Nat.le_of_ble_eq_true rfl) (Nat.le_of_ble_eq_true rfl) (show decode cX3_init 16 = .ok (.new 18, 3) by decide +kernel) (fun q1 H hP hD hS => ?_)
  refine lv_dup hx hb (show decode cX3_init 19 = .ok (.dup, 1) by decide +kernel) rfl ?_
  refine lv_bipush (n := 30) (v := (30 : Int32)) hx hb (show decode cX3_init 20 = .ok (.bipush 30, 2) by decide +kernel) (by decide) ?_
  refine lv_iconst (n := 2) (v := (2 : Int32)) hx hb (show decode cX3_init 22 = .ok (.iconst 2, 1) by decide +kernel) (by decide) ?_
  refine n_calp (rm := { frames := 1, cells := 1, slots := 60, locals := 20 }) hx hb hml hown hts hI hP hD hS hA (nX7 l D gc (30 : Int32) (2 : Int32) 60 (by decide) (by decide) (by decide) (by decide) (by decide)) (index := 20) (xinq_mem (q := 199) (by decide +kernel)) (xinq_mem (q := 106) (by decide +kernel)) (xinq_mem (q := 5) (by decide +kernel)) (xinq_mem (q := 105) (by decide +kernel)) rfl rfl rfl (by decide +kernel) (by decide) hl.1 (Nat.le_of_ble_eq_true rfl) ⟨Nat.le_of_ble_eq_true rfl, Nat.le_of_ble_eq_true rfl⟩ (show decode cX3_init 23 = .ok (.invokespecial 20, 3) by decide +kernel) (fun f1 H locs h0 hP8 hD8 hS => ?_)
  subst h0
  have hP := hP8
  have hD := hD8
  clear hP8 hD8
  refine n_put (v := .ref (f1 0)) hx hb hts hown hK hP hD hS (ci := 3) (N := 3) rfl 1 (by decide) (xinq_mem (q := 201) (by decide +kernel)) (Or.inr ⟨rfl, hin, rfl⟩) (.object "DeadStick$Rows") (by decide +kernel) rfl rfl (Nat.le_of_ble_eq_true rfl) (show decode cX3_init 26 = .ok (.putfield 23, 3) by decide +kernel) (fun H locs hP hD hS => ?_)
  refine lv_aload_n hx hb (show decode cX3_init 29 = .ok (.aload_n 0, 1) by decide +kernel) rfl (lv_at hl 0 rfl) ?_
  refine lv_iconst (n := 0) (v := (0 : Int32)) hx hb (show decode cX3_init 30 = .ok (.iconst 0, 1) by decide +kernel) (by decide) ?_
  refine n_put (v := .int (0 : Int32)) hx hb hts hown hK hP hD hS (ci := 3) (N := 3) rfl 2 (by decide) (xinq_mem (q := 203) (by decide +kernel)) (Or.inl rfl) .int (by decide +kernel) rfl rfl (Nat.le_of_ble_eq_true rfl) (show decode cX3_init 31 = .ok (.putfield 27, 3) by decide +kernel) (fun H locs hP hD hS => ?_)
  have hP9 : va_P D clX ((BX3 gc) (fun k => xnd 0 [a, f0 0, f1 0, f1 1] k)) _ := hP
  have hD9 : va_D A ((BX3 gc) (fun k => xnd 0 [a, f0 0, f1 0, f1 1] k)) := hD
  refine W.widen (k := 3) (n := 69) (Nat.le_of_ble_eq_true rfl) (Nat.le_of_ble_eq_true rfl) ?_
  exact W.vret hx hb hr (fun t ht hW => ⟨⟨_, rfl, rfl, by rw [ht]; exact hP9, hD9⟩, hS.F ht⟩) hS.2.2 (show decode cX3_init 34 = .ok (.return_, 1) by decide +kernel)
def BX9 (gc : Nat → ClassId) (g : Nat → Nat) : va_W := (g 0, .inr (9, [.ref (g 1), .int (0 : Int32), .ref (g 2), .ref (g 6), .ref (g 7), .ref (g 8), .int (0 : Int32), .int (0 : Int32), .int (0 : Int32), .int (0 : Int32), .int (0 : Int32)])) :: ((((([] ++ [(g 1, .inl (gc 2, (240, .inl (fun _ => 0))))]) ++ BX4 gc (fun z => g (2 + z))) ++ [(g 6, .inl (gc 1, (241, .inl (fun _ => 0))))]) ++ [(g 7, .inl (gc 1, (241, .inl (fun _ => 0))))]) ++ [(g 8, .inl (gc 1, (241, .inl (fun _ => 0))))])
set_option maxHeartbeats 4000000 in
set_option maxRecDepth 100000 in
theorem nX9 (l : Launch) (D : va_G) (gc : Nat → ClassId) : nMet l D gc yX9_init cX9_init 1 { frames := 2, cells := 8, slots := 1226, locals := 60 } 9 [.null, .int 0, .null, .null, .null, .null, .int 0, .int 0, .int 0, .int 0, .int 0] [] 8 1226 (BX9 gc) := by
  intro a sz
  refine Met.ofW (cc := cX9_init) (maxL := 1) (ret := none) (by decide) rfl ?_
  intro p e s m args below meth c s₁ B hml hv
  obtain ⟨rfl, hsz, hP, hI, hD0⟩ := hv
  have hx := B.exec
  have hb := B.bytes
  have hr := B.returns
  have hts0 := atoms_spec (ws := .code yX9_init cX9_init 1 none :: xTs) B.pre
  have hts : ∀ w ∈ xTs, w.before _ s = true := fun w hw => hts0 w (List.mem_cons_of_mem _ hw)
  clear hts0
  have hown : s.vm.findClass RX9 = some m.cls := findClass_of_methodNamed B.named
  have hlocks := B.notSynchronized
  have hin : meth.name = "<init>" := (name_of_methodNamed B.named B.method).1
  have hK := hI.1
  subst hsz
  have hD := hD0.self (sz := s.heap.size)
  generalize hAe : va_A [(a, .inr (9, ([.null, .int 0, .null, .null, .null, .null, .int 0, .int 0, .int 0, .int 0, .int 0] : List Value)))] s.heap.size = A at hD ⊢
  have hA : ∀ q : Nat, s.heap.size ≤ q → A q := fun q h => by rw [← hAe]; exact Or.inr h
  have hS : va_S A s.heap s.heap [] := va_S.rf
  have hl := lv_entry ([.ref a] : List Value) (n := 1) (Nat.le_of_ble_eq_true rfl)
  rw [lg_entry_eq]
  generalize (lg_sl ([.ref a] : List Value) ++ List.replicate (1 - (lg_sl ([.ref a] : List Value)).length) Slot.unset).toArray = ls at hl ⊢
  have hl : lv_has ls 1 [(0, .ref a)] := hl

  refine lv_aload_n hx hb (show decode cX9_init 0 = .ok (.aload_n 0, 1) by decide +kernel) rfl (lv_at hl 0 rfl) ?_
  refine W.objInit hx hb hown (hts _ (xinq_mem (q := 237) (by decide +kernel))) (hts _ (xinq_mem (q := 27) (by decide +kernel))) (hts _ (xinq_mem (q := 28) (by decide +kernel))) rfl (by rw [hml]; exact hl.1) rfl (show decode cX9_init 1 = .ok (.invokespecial 3, 3) by decide +kernel) (Nat.le_of_ble_eq_true rfl) (Nat.le_of_ble_eq_true rfl) ?_
  refine W.eq (g2 := F0 m 4 ls []) rfl ?_
  refine lv_aload_n hx hb (show decode cX9_init 4 = .ok (.aload_n 0, 1) by decide +kernel) rfl (lv_at hl 0 rfl) ?_
  refine lv_sipush (n := 240) (v := (240 : Int32)) hx hb (show decode cX9_init 5 = .ok (.sipush 240, 3) by decide +kernel) (by decide) ?_
  refine n_newa (N := 240) hx hb hts hK hP hD hS hA (xinq_mem (q := 1036) (by decide +kernel)) rfl 1 rfl (Or.inr (Or.inl rfl)) (by decide) (by decide) (by decide) (Nat.le_of_ble_eq_true rfl) (Nat.le_of_ble_eq_true rfl) (show decode cX9_init 8 = .ok (.newarray .byte, 2) by decide +kernel) (fun q0 H hP hD hS => ?_)
  refine n_put (v := .ref q0) hx hb hts hown hK hP hD hS (ci := 9) (N := 11) rfl 0 (by decide) (xinq_mem (q := 1000) (by decide +kernel)) (Or.inr ⟨rfl, hin, rfl⟩) (.array .byte) (by decide +kernel) rfl rfl (Nat.le_of_ble_eq_true rfl) (show decode cX9_init 10 = .ok (.putfield 9, 3) by decide +kernel) (fun H locs hP hD hS => ?_)
  refine lv_aload_n hx hb (show decode cX9_init 13 = .ok (.aload_n 0, 1) by decide +kernel) rfl (lv_at hl 0 rfl) ?_
  refine lv_iconst (n := 0) (v := (0 : Int32)) hx hb (show decode cX9_init 14 = .ok (.iconst 0, 1) by decide +kernel) (by decide) ?_
  refine n_put (v := .int (0 : Int32)) hx hb hts hown hK hP hD hS (ci := 9) (N := 11) rfl 1 (by decide) (xinq_mem (q := 1001) (by decide +kernel)) (Or.inl rfl) .int (by decide +kernel) rfl rfl (Nat.le_of_ble_eq_true rfl) (show decode cX9_init 15 = .ok (.putfield 15, 3) by decide +kernel) (fun H locs hP hD hS => ?_)
  refine lv_aload_n hx hb (show decode cX9_init 18 = .ok (.aload_n 0, 1) by decide +kernel) rfl (lv_at hl 0 rfl) ?_
  refine n_new hx hb hts hown hK hP hD hS hA (ci := 4) (N := 4) rfl (xinq_mem (q := 238) (by decide +kernel)) (xinq_mem (q := 129) (by decide +kernel)) (xinq_mem (q := 7) (by decide +kernel)) [.null, .null, .null, .int 0] tyX4 tyX4_ok (fun j hj => by match j, hj with | 0, _ => rfl | 1, _ => rfl | 2, _ => rfl | 3, _ => rfl | z + 4, h => exact absurd h (by omega)) (Nat.le_of_ble_eq_true rfl) (Nat.le_of_ble_eq_true rfl) (show decode cX9_init 19 = .ok (.new 19, 3) by decide +kernel) (fun q1 H hP hD hS => ?_)
  refine lv_dup hx hb (show decode cX9_init 22 = .ok (.dup, 1) by decide +kernel) rfl ?_
  refine n_call (rm := { frames := 1, cells := 3, slots := 259, locals := 20 }) hx hb hml hown hts hI hP hD hS hA (nX4 l D gc) (index := 21) (by decide +kernel) (xinq_mem (q := 132) (by decide +kernel)) (xinq_mem (q := 7) (by decide +kernel)) (xinq_mem (q := 131) (by decide +kernel)) rfl rfl (by decide) (by decide) hl.1 (Nat.le_of_ble_eq_true rfl) ⟨Nat.le_of_ble_eq_true rfl, Nat.le_of_ble_eq_true rfl⟩ (show decode cX9_init 23 = .ok (.invokespecial 21, 3) by decide +kernel) (fun f0 H locs h0 hP8 hD8 hS => ?_)
  subst h0
  have hP := hP8
  have hD := hD8
  clear hP8 hD8
  refine n_put (v := .ref (f0 0)) hx hb hts hown hK hP hD hS (ci := 9) (N := 11) rfl 2 (by decide) (xinq_mem (q := 1003) (by decide +kernel)) (Or.inr ⟨rfl, hin, rfl⟩) (.object "DeadStick$Hands") (by decide +kernel) rfl rfl (Nat.le_of_ble_eq_true rfl) (show decode cX9_init 26 = .ok (.putfield 22, 3) by decide +kernel) (fun H locs hP hD hS => ?_)
  refine lv_aload_n hx hb (show decode cX9_init 29 = .ok (.aload_n 0, 1) by decide +kernel) rfl (lv_at hl 0 rfl) ?_
  refine lv_sipush (n := 241) (v := (241 : Int32)) hx hb (show decode cX9_init 30 = .ok (.sipush 241, 3) by decide +kernel) (by decide) ?_
  refine n_newa (N := 241) hx hb hts hK hP hD hS hA (xinq_mem (q := 58) (by decide +kernel)) rfl 0 rfl (Or.inl rfl) (by decide) (by decide) (by decide) (Nat.le_of_ble_eq_true rfl) (Nat.le_of_ble_eq_true rfl) (show decode cX9_init 33 = .ok (.newarray .int, 2) by decide +kernel) (fun q2 H hP hD hS => ?_)
  refine n_put (v := .ref q2) hx hb hts hown hK hP hD hS (ci := 9) (N := 11) rfl 3 (by decide) (xinq_mem (q := 1005) (by decide +kernel)) (Or.inr ⟨rfl, hin, rfl⟩) (.array .int) (by decide +kernel) rfl rfl (Nat.le_of_ble_eq_true rfl) (show decode cX9_init 35 = .ok (.putfield 26, 3) by decide +kernel) (fun H locs hP hD hS => ?_)
  refine lv_aload_n hx hb (show decode cX9_init 38 = .ok (.aload_n 0, 1) by decide +kernel) rfl (lv_at hl 0 rfl) ?_
  refine lv_sipush (n := 241) (v := (241 : Int32)) hx hb (show decode cX9_init 39 = .ok (.sipush 241, 3) by decide +kernel) (by decide) ?_
  refine n_newa (N := 241) hx hb hts hK hP hD hS hA (xinq_mem (q := 58) (by decide +kernel)) rfl 0 rfl (Or.inl rfl) (by decide) (by decide) (by decide) (Nat.le_of_ble_eq_true rfl) (Nat.le_of_ble_eq_true rfl) (show decode cX9_init 42 = .ok (.newarray .int, 2) by decide +kernel) (fun q3 H hP hD hS => ?_)
  refine n_put (v := .ref q3) hx hb hts hown hK hP hD hS (ci := 9) (N := 11) rfl 4 (by decide) (xinq_mem (q := 1006) (by decide +kernel)) (Or.inr ⟨rfl, hin, rfl⟩) (.array .int) (by decide +kernel) rfl rfl (Nat.le_of_ble_eq_true rfl) (show decode cX9_init 44 = .ok (.putfield 30, 3) by decide +kernel) (fun H locs hP hD hS => ?_)
  refine lv_aload_n hx hb (show decode cX9_init 47 = .ok (.aload_n 0, 1) by decide +kernel) rfl (lv_at hl 0 rfl) ?_
  refine lv_sipush (n := 241) (v := (241 : Int32)) hx hb (show decode cX9_init 48 = .ok (.sipush 241, 3) by decide +kernel) (by decide) ?_
  refine n_newa (N := 241) hx hb hts hK hP hD hS hA (xinq_mem (q := 58) (by decide +kernel)) rfl 0 rfl (Or.inl rfl) (by decide) (by decide) (by decide) (Nat.le_of_ble_eq_true rfl) (Nat.le_of_ble_eq_true rfl) (show decode cX9_init 51 = .ok (.newarray .int, 2) by decide +kernel) (fun q4 H hP hD hS => ?_)
  refine n_put (v := .ref q4) hx hb hts hown hK hP hD hS (ci := 9) (N := 11) rfl 5 (by decide) (xinq_mem (q := 1007) (by decide +kernel)) (Or.inr ⟨rfl, hin, rfl⟩) (.array .int) (by decide +kernel) rfl rfl (Nat.le_of_ble_eq_true rfl) (show decode cX9_init 53 = .ok (.putfield 33, 3) by decide +kernel) (fun H locs hP hD hS => ?_)
  refine lv_aload_n hx hb (show decode cX9_init 56 = .ok (.aload_n 0, 1) by decide +kernel) rfl (lv_at hl 0 rfl) ?_
  refine lv_iconst (n := 0) (v := (0 : Int32)) hx hb (show decode cX9_init 57 = .ok (.iconst 0, 1) by decide +kernel) (by decide) ?_
  refine n_put (v := .int (0 : Int32)) hx hb hts hown hK hP hD hS (ci := 9) (N := 11) rfl 6 (by decide) (xinq_mem (q := 1008) (by decide +kernel)) (Or.inl rfl) .int (by decide +kernel) rfl rfl (Nat.le_of_ble_eq_true rfl) (show decode cX9_init 58 = .ok (.putfield 36, 3) by decide +kernel) (fun H locs hP hD hS => ?_)
  refine lv_aload_n hx hb (show decode cX9_init 61 = .ok (.aload_n 0, 1) by decide +kernel) rfl (lv_at hl 0 rfl) ?_
  refine lv_iconst (n := 0) (v := (0 : Int32)) hx hb (show decode cX9_init 62 = .ok (.iconst 0, 1) by decide +kernel) (by decide) ?_
  refine n_put (v := .int (0 : Int32)) hx hb hts hown hK hP hD hS (ci := 9) (N := 11) rfl 7 (by decide) (xinq_mem (q := 1009) (by decide +kernel)) (Or.inl rfl) .int (by decide +kernel) rfl rfl (Nat.le_of_ble_eq_true rfl) (show decode cX9_init 63 = .ok (.putfield 39, 3) by decide +kernel) (fun H locs hP hD hS => ?_)
  refine lv_aload_n hx hb (show decode cX9_init 66 = .ok (.aload_n 0, 1) by decide +kernel) rfl (lv_at hl 0 rfl) ?_
  refine lv_iconst (n := 0) (v := (0 : Int32)) hx hb (show decode cX9_init 67 = .ok (.iconst 0, 1) by decide +kernel) (by decide) ?_
  refine n_put (v := .int (0 : Int32)) hx hb hts hown hK hP hD hS (ci := 9) (N := 11) rfl 8 (by decide) (xinq_mem (q := 1010) (by decide +kernel)) (Or.inl rfl) .int (by decide +kernel) rfl rfl (Nat.le_of_ble_eq_true rfl) (show decode cX9_init 68 = .ok (.putfield 42, 3) by decide +kernel) (fun H locs hP hD hS => ?_)
  refine lv_aload_n hx hb (show decode cX9_init 71 = .ok (.aload_n 0, 1) by decide +kernel) rfl (lv_at hl 0 rfl) ?_
  refine lv_iconst (n := 0) (v := (0 : Int32)) hx hb (show decode cX9_init 72 = .ok (.iconst 0, 1) by decide +kernel) (by decide) ?_
  refine n_put (v := .int (0 : Int32)) hx hb hts hown hK hP hD hS (ci := 9) (N := 11) rfl 9 (by decide) (xinq_mem (q := 1011) (by decide +kernel)) (Or.inl rfl) .int (by decide +kernel) rfl rfl (Nat.le_of_ble_eq_true rfl) (show decode cX9_init 73 = .ok (.putfield 45, 3) by decide +kernel) (fun H locs hP hD hS => ?_)
  refine lv_aload_n hx hb (show decode cX9_init 76 = .ok (.aload_n 0, 1) by decide +kernel) rfl (lv_at hl 0 rfl) ?_
  refine lv_iconst (n := 0) (v := (0 : Int32)) hx hb (show decode cX9_init 77 = .ok (.iconst 0, 1) by decide +kernel) (by decide) ?_
  refine n_put (v := .int (0 : Int32)) hx hb hts hown hK hP hD hS (ci := 9) (N := 11) rfl 10 (by decide) (xinq_mem (q := 1012) (by decide +kernel)) (Or.inl rfl) .int (by decide +kernel) rfl rfl (Nat.le_of_ble_eq_true rfl) (show decode cX9_init 78 = .ok (.putfield 48, 3) by decide +kernel) (fun H locs hP hD hS => ?_)
  have hP9 : va_P D clX ((BX9 gc) (fun k => xnd 0 [a, q0, f0 0, f0 1, f0 2, f0 3, q2, q3, q4] k)) _ := hP
  have hD9 : va_D A ((BX9 gc) (fun k => xnd 0 [a, q0, f0 0, f0 1, f0 2, f0 3, q2, q3, q4] k)) := hD
  refine W.widen (k := 8) (n := 1226) (Nat.le_of_ble_eq_true rfl) (Nat.le_of_ble_eq_true rfl) ?_
  exact W.vret hx hb hr (fun t ht hW => ⟨⟨_, rfl, rfl, by rw [ht]; exact hP9, hD9⟩, hS.F ht⟩) hS.2.2 (show decode cX9_init 81 = .ok (.return_, 1) by decide +kernel)
def BX10 (gc : Nat → ClassId) (g : Nat → Nat) : va_W := (g 0, .inr (10, [.ref (g 1), .ref (g 5), .ref (g 6), .ref (g 8), .ref (g 10), .ref (g 12), .ref (g 16), .ref (g 18), .ref (g 20)])) :: ((((((((([] ++ BX5 gc (fun z => g (1 + z))) ++ BX2 gc (fun z => g (5 + z))) ++ BX7 gc (8 : Int32) (5 : Int32) 40 (fun z => g (6 + z))) ++ BX7 gc (4 : Int32) (21 : Int32) 84 (fun z => g (8 + z))) ++ BX7 gc (5 : Int32) (4 : Int32) 20 (fun z => g (10 + z))) ++ BX4 gc (fun z => g (12 + z))) ++ BX7 gc (7 : Int32) (3 : Int32) 21 (fun z => g (16 + z))) ++ BX7 gc (8 : Int32) (1 : Int32) 8 (fun z => g (18 + z))) ++ BX7 gc (20 : Int32) (3 : Int32) 60 (fun z => g (20 + z)))
set_option maxHeartbeats 4000000 in
set_option maxRecDepth 100000 in
theorem nX10 (l : Launch) (D : va_G) (gc : Nat → ClassId) : nMet l D gc yX10_init cX10_init 1 { frames := 2, cells := 21, slots := 667, locals := 60 } 10 [.null, .null, .null, .null, .null, .null, .null, .null, .null] [] 21 667 (BX10 gc) := by
  intro a sz
  refine Met.ofW (cc := cX10_init) (maxL := 1) (ret := none) (by decide) rfl ?_
  intro p e s m args below meth c s₁ B hml hv
  obtain ⟨rfl, hsz, hP, hI, hD0⟩ := hv
  have hx := B.exec
  have hb := B.bytes
  have hr := B.returns
  have hts0 := atoms_spec (ws := .code yX10_init cX10_init 1 none :: xTs) B.pre
  have hts : ∀ w ∈ xTs, w.before _ s = true := fun w hw => hts0 w (List.mem_cons_of_mem _ hw)
  clear hts0
  have hown : s.vm.findClass RX10 = some m.cls := findClass_of_methodNamed B.named
  have hlocks := B.notSynchronized
  have hin : meth.name = "<init>" := (name_of_methodNamed B.named B.method).1
  have hK := hI.1
  subst hsz
  have hD := hD0.self (sz := s.heap.size)
  generalize hAe : va_A [(a, .inr (10, ([.null, .null, .null, .null, .null, .null, .null, .null, .null] : List Value)))] s.heap.size = A at hD ⊢
  have hA : ∀ q : Nat, s.heap.size ≤ q → A q := fun q h => by rw [← hAe]; exact Or.inr h
  have hS : va_S A s.heap s.heap [] := va_S.rf
  have hl := lv_entry ([.ref a] : List Value) (n := 1) (Nat.le_of_ble_eq_true rfl)
  rw [lg_entry_eq]
  generalize (lg_sl ([.ref a] : List Value) ++ List.replicate (1 - (lg_sl ([.ref a] : List Value)).length) Slot.unset).toArray = ls at hl ⊢
  have hl : lv_has ls 1 [(0, .ref a)] := hl

  refine lv_aload_n hx hb (show decode cX10_init 0 = .ok (.aload_n 0, 1) by decide +kernel) rfl (lv_at hl 0 rfl) ?_
  refine W.objInit hx hb hown (hts _ (xinq_mem (q := 34) (by decide +kernel))) (hts _ (xinq_mem (q := 27) (by decide +kernel))) (hts _ (xinq_mem (q := 28) (by decide +kernel))) rfl (by rw [hml]; exact hl.1) rfl (show decode cX10_init 1 = .ok (.invokespecial 3, 3) by decide +kernel) (Nat.le_of_ble_eq_true rfl) (Nat.le_of_ble_eq_true rfl) ?_
  refine W.eq (g2 := F0 m 4 ls []) rfl ?_
  refine lv_aload_n hx hb (show decode cX10_init 4 = .ok (.aload_n 0, 1) by decide +kernel) rfl (lv_at hl 0 rfl) ?_
  refine n_new hx hb hts hown hK hP hD hS hA (ci := 5) (N := 5) rfl (xinq_mem (q := 35) (by decide +kernel)) (xinq_mem (q := 36) (by decide +kernel)) (xinq_mem (q := 3) (by decide +kernel)) [.int 0, .int 0, .null, .null, .null] tyX5 tyX5_ok (fun j hj => by match j, hj with | 0, _ => rfl | 1, _ => rfl | 2, _ => rfl | 3, _ => rfl | 4, _ => rfl | z + 5, h => exact absurd h (by omega)) (Nat.le_of_ble_eq_true rfl) (Nat.le_of_ble_eq_true rfl) (show decode cX10_init 5 = .ok (.new 9, 3) by decide +kernel) (fun q0 H hP hD hS => ?_)
  refine lv_dup hx hb (show decode cX10_init 8 = .ok (.dup, 1) by decide +kernel) rfl ?_
  refine n_call (rm := { frames := 1, cells := 3, slots := 137, locals := 20 }) hx hb hml hown hts hI hP hD hS hA (nX5 l D gc) (index := 11) (by decide +kernel) (xinq_mem (q := 39) (by decide +kernel)) (xinq_mem (q := 3) (by decide +kernel)) (xinq_mem (q := 38) (by decide +kernel)) rfl rfl (by decide) (by decide) hl.1 (Nat.le_of_ble_eq_true rfl) ⟨Nat.le_of_ble_eq_true rfl, Nat.le_of_ble_eq_true rfl⟩ (show decode cX10_init 9 = .ok (.invokespecial 11, 3) by decide +kernel) (fun f0 H locs h0 hP8 hD8 hS => ?_)
  subst h0
  have hP := hP8
  have hD := hD8
  clear hP8 hD8
  refine n_put (v := .ref (f0 0)) hx hb hts hown hK hP hD hS (ci := 10) (N := 9) rfl 0 (by decide) (xinq_mem (q := 149) (by decide +kernel)) (Or.inr ⟨rfl, hin, rfl⟩) (.object "DeadStick$Land") (by decide +kernel) rfl rfl (Nat.le_of_ble_eq_true rfl) (show decode cX10_init 12 = .ok (.putfield 12, 3) by decide +kernel) (fun H locs hP hD hS => ?_)
  refine lv_aload_n hx hb (show decode cX10_init 15 = .ok (.aload_n 0, 1) by decide +kernel) rfl (lv_at hl 0 rfl) ?_
  refine n_new hx hb hts hown hK hP hD hS hA (ci := 2) (N := 5) rfl (xinq_mem (q := 59) (by decide +kernel)) (xinq_mem (q := 60) (by decide +kernel)) (xinq_mem (q := 4) (by decide +kernel)) [.int 0, .int 0, .int 0, .int 0, .int 0] tyX2 tyX2_ok (fun j hj => by match j, hj with | 0, _ => rfl | 1, _ => rfl | 2, _ => rfl | 3, _ => rfl | 4, _ => rfl | z + 5, h => exact absurd h (by omega)) (Nat.le_of_ble_eq_true rfl) (Nat.le_of_ble_eq_true rfl) (show decode cX10_init 16 = .ok (.new 18, 3) by decide +kernel) (fun q1 H hP hD hS => ?_)
  refine lv_dup hx hb (show decode cX10_init 19 = .ok (.dup, 1) by decide +kernel) rfl ?_
  refine n_call (rm := { frames := 1, cells := 0, slots := 0, locals := 20 }) hx hb hml hown hts hI hP hD hS hA (nX2 l D gc) (index := 20) (by decide +kernel) (xinq_mem (q := 63) (by decide +kernel)) (xinq_mem (q := 4) (by decide +kernel)) (xinq_mem (q := 62) (by decide +kernel)) rfl rfl (by decide) (by decide) hl.1 (Nat.le_of_ble_eq_true rfl) ⟨Nat.le_of_ble_eq_true rfl, Nat.le_of_ble_eq_true rfl⟩ (show decode cX10_init 20 = .ok (.invokespecial 20, 3) by decide +kernel) (fun f1 H locs h0 hP8 hD8 hS => ?_)
  subst h0
  have hP := hP8
  have hD := hD8
  clear hP8 hD8
  refine n_put (v := .ref (f1 0)) hx hb hts hown hK hP hD hS (ci := 10) (N := 9) rfl 1 (by decide) (xinq_mem (q := 153) (by decide +kernel)) (Or.inr ⟨rfl, hin, rfl⟩) (.object "DeadStick$Craft") (by decide +kernel) rfl rfl (Nat.le_of_ble_eq_true rfl) (show decode cX10_init 23 = .ok (.putfield 21, 3) by decide +kernel) (fun H locs hP hD hS => ?_)
  refine lv_aload_n hx hb (show decode cX10_init 26 = .ok (.aload_n 0, 1) by decide +kernel) rfl (lv_at hl 0 rfl) ?_
  refine n_new hx hb hts hown hK hP hD hS hA (ci := 7) (N := 4) rfl (xinq_mem (q := 102) (by decide +kernel)) (xinq_mem (q := 103) (by decide +kernel)) (xinq_mem (q := 5) (by decide +kernel)) [.int 0, .int 0, .null, .int 0] tyX7 tyX7_ok (fun j hj => by match j, hj with | 0, _ => rfl | 1, _ => rfl | 2, _ => rfl | 3, _ => rfl | z + 4, h => exact absurd h (by omega)) (Nat.le_of_ble_eq_true rfl) (Nat.le_of_ble_eq_true rfl) (show decode cX10_init 27 = .ok (.new 25, 3) by decide +kernel) (fun q2 H hP hD hS => ?_)
  refine lv_dup hx hb (show decode cX10_init 30 = .ok (.dup, 1) by decide +kernel) rfl ?_
  refine lv_bipush (n := 8) (v := (8 : Int32)) hx hb (show decode cX10_init 31 = .ok (.bipush 8, 2) by decide +kernel) (by decide) ?_
  refine lv_iconst (n := 5) (v := (5 : Int32)) hx hb (show decode cX10_init 33 = .ok (.iconst 5, 1) by decide +kernel) (by decide) ?_
  refine n_calp (rm := { frames := 1, cells := 1, slots := 40, locals := 20 }) hx hb hml hown hts hI hP hD hS hA (nX7 l D gc (8 : Int32) (5 : Int32) 40 (by decide) (by decide) (by decide) (by decide) (by decide)) (index := 27) (xinq_mem (q := 104) (by decide +kernel)) (xinq_mem (q := 106) (by decide +kernel)) (xinq_mem (q := 5) (by decide +kernel)) (xinq_mem (q := 105) (by decide +kernel)) rfl rfl rfl (by decide +kernel) (by decide) hl.1 (Nat.le_of_ble_eq_true rfl) ⟨Nat.le_of_ble_eq_true rfl, Nat.le_of_ble_eq_true rfl⟩ (show decode cX10_init 34 = .ok (.invokespecial 27, 3) by decide +kernel) (fun f2 H locs h0 hP8 hD8 hS => ?_)
  subst h0
  have hP := hP8
  have hD := hD8
  clear hP8 hD8
  refine n_put (v := .ref (f2 0)) hx hb hts hown hK hP hD hS (ci := 10) (N := 9) rfl 2 (by decide) (xinq_mem (q := 156) (by decide +kernel)) (Or.inr ⟨rfl, hin, rfl⟩) (.object "DeadStick$Rows") (by decide +kernel) rfl rfl (Nat.le_of_ble_eq_true rfl) (show decode cX10_init 37 = .ok (.putfield 30, 3) by decide +kernel) (fun H locs hP hD hS => ?_)
  refine lv_aload_n hx hb (show decode cX10_init 40 = .ok (.aload_n 0, 1) by decide +kernel) rfl (lv_at hl 0 rfl) ?_
  refine n_new hx hb hts hown hK hP hD hS hA (ci := 7) (N := 4) rfl (xinq_mem (q := 102) (by decide +kernel)) (xinq_mem (q := 103) (by decide +kernel)) (xinq_mem (q := 5) (by decide +kernel)) [.int 0, .int 0, .null, .int 0] tyX7 tyX7_ok (fun j hj => by match j, hj with | 0, _ => rfl | 1, _ => rfl | 2, _ => rfl | 3, _ => rfl | z + 4, h => exact absurd h (by omega)) (Nat.le_of_ble_eq_true rfl) (Nat.le_of_ble_eq_true rfl) (show decode cX10_init 41 = .ok (.new 25, 3) by decide +kernel) (fun q3 H hP hD hS => ?_)
  refine lv_dup hx hb (show decode cX10_init 44 = .ok (.dup, 1) by decide +kernel) rfl ?_
  refine lv_iconst (n := 4) (v := (4 : Int32)) hx hb (show decode cX10_init 45 = .ok (.iconst 4, 1) by decide +kernel) (by decide) ?_
  refine lv_bipush (n := 21) (v := (21 : Int32)) hx hb (show decode cX10_init 46 = .ok (.bipush 21, 2) by decide +kernel) (by decide) ?_
  refine n_calp (rm := { frames := 1, cells := 1, slots := 84, locals := 20 }) hx hb hml hown hts hI hP hD hS hA (nX7 l D gc (4 : Int32) (21 : Int32) 84 (by decide) (by decide) (by decide) (by decide) (by decide)) (index := 27) (xinq_mem (q := 104) (by decide +kernel)) (xinq_mem (q := 106) (by decide +kernel)) (xinq_mem (q := 5) (by decide +kernel)) (xinq_mem (q := 105) (by decide +kernel)) rfl rfl rfl (by decide +kernel) (by decide) hl.1 (Nat.le_of_ble_eq_true rfl) ⟨Nat.le_of_ble_eq_true rfl, Nat.le_of_ble_eq_true rfl⟩ (show decode cX10_init 48 = .ok (.invokespecial 27, 3) by decide +kernel) (fun f3 H locs h0 hP8 hD8 hS => ?_)
  subst h0
  have hP := hP8
  have hD := hD8
  clear hP8 hD8
  refine n_put (v := .ref (f3 0)) hx hb hts hown hK hP hD hS (ci := 10) (N := 9) rfl 3 (by decide) (xinq_mem (q := 159) (by decide +kernel)) (Or.inr ⟨rfl, hin, rfl⟩) (.object "DeadStick$Rows") (by decide +kernel) rfl rfl (Nat.le_of_ble_eq_true rfl) (show decode cX10_init 51 = .ok (.putfield 34, 3) by decide +kernel) (fun H locs hP hD hS => ?_)
  refine lv_aload_n hx hb (show decode cX10_init 54 = .ok (.aload_n 0, 1) by decide +kernel) rfl (lv_at hl 0 rfl) ?_
  refine n_new hx hb hts hown hK hP hD hS hA (ci := 7) (N := 4) rfl (xinq_mem (q := 102) (by decide +kernel)) (xinq_mem (q := 103) (by decide +kernel)) (xinq_mem (q := 5) (by decide +kernel)) [.int 0, .int 0, .null, .int 0] tyX7 tyX7_ok (fun j hj => by match j, hj with | 0, _ => rfl | 1, _ => rfl | 2, _ => rfl | 3, _ => rfl | z + 4, h => exact absurd h (by omega)) (Nat.le_of_ble_eq_true rfl) (Nat.le_of_ble_eq_true rfl) (show decode cX10_init 55 = .ok (.new 25, 3) by decide +kernel) (fun q4 H hP hD hS => ?_)
  refine lv_dup hx hb (show decode cX10_init 58 = .ok (.dup, 1) by decide +kernel) rfl ?_
  refine lv_iconst (n := 5) (v := (5 : Int32)) hx hb (show decode cX10_init 59 = .ok (.iconst 5, 1) by decide +kernel) (by decide) ?_
  refine lv_iconst (n := 4) (v := (4 : Int32)) hx hb (show decode cX10_init 60 = .ok (.iconst 4, 1) by decide +kernel) (by decide) ?_
  refine n_calp (rm := { frames := 1, cells := 1, slots := 20, locals := 20 }) hx hb hml hown hts hI hP hD hS hA (nX7 l D gc (5 : Int32) (4 : Int32) 20 (by decide) (by decide) (by decide) (by decide) (by decide)) (index := 27) (xinq_mem (q := 104) (by decide +kernel)) (xinq_mem (q := 106) (by decide +kernel)) (xinq_mem (q := 5) (by decide +kernel)) (xinq_mem (q := 105) (by decide +kernel)) rfl rfl rfl (by decide +kernel) (by decide) hl.1 (Nat.le_of_ble_eq_true rfl) ⟨Nat.le_of_ble_eq_true rfl, Nat.le_of_ble_eq_true rfl⟩ (show decode cX10_init 61 = .ok (.invokespecial 27, 3) by decide +kernel) (fun f4 H locs h0 hP8 hD8 hS => ?_)
  subst h0
  have hP := hP8
  have hD := hD8
  clear hP8 hD8
  refine n_put (v := .ref (f4 0)) hx hb hts hown hK hP hD hS (ci := 10) (N := 9) rfl 4 (by decide) (xinq_mem (q := 161) (by decide +kernel)) (Or.inr ⟨rfl, hin, rfl⟩) (.object "DeadStick$Rows") (by decide +kernel) rfl rfl (Nat.le_of_ble_eq_true rfl) (show decode cX10_init 64 = .ok (.putfield 37, 3) by decide +kernel) (fun H locs hP hD hS => ?_)
  refine lv_aload_n hx hb (show decode cX10_init 67 = .ok (.aload_n 0, 1) by decide +kernel) rfl (lv_at hl 0 rfl) ?_
  refine n_new hx hb hts hown hK hP hD hS hA (ci := 4) (N := 4) rfl (xinq_mem (q := 128) (by decide +kernel)) (xinq_mem (q := 129) (by decide +kernel)) (xinq_mem (q := 7) (by decide +kernel)) [.null, .null, .null, .int 0] tyX4 tyX4_ok (fun j hj => by match j, hj with | 0, _ => rfl | 1, _ => rfl | 2, _ => rfl | 3, _ => rfl | z + 4, h => exact absurd h (by omega)) (Nat.le_of_ble_eq_true rfl) (Nat.le_of_ble_eq_true rfl) (show decode cX10_init 68 = .ok (.new 40, 3) by decide +kernel) (fun q5 H hP hD hS => ?_)
  refine lv_dup hx hb (show decode cX10_init 71 = .ok (.dup, 1) by decide +kernel) rfl ?_
  refine n_call (rm := { frames := 1, cells := 3, slots := 259, locals := 20 }) hx hb hml hown hts hI hP hD hS hA (nX4 l D gc) (index := 42) (by decide +kernel) (xinq_mem (q := 132) (by decide +kernel)) (xinq_mem (q := 7) (by decide +kernel)) (xinq_mem (q := 131) (by decide +kernel)) rfl rfl (by decide) (by decide) hl.1 (Nat.le_of_ble_eq_true rfl) ⟨Nat.le_of_ble_eq_true rfl, Nat.le_of_ble_eq_true rfl⟩ (show decode cX10_init 72 = .ok (.invokespecial 42, 3) by decide +kernel) (fun f5 H locs h0 hP8 hD8 hS => ?_)
  subst h0
  have hP := hP8
  have hD := hD8
  clear hP8 hD8
  refine n_put (v := .ref (f5 0)) hx hb hts hown hK hP hD hS (ci := 10) (N := 9) rfl 5 (by decide) (xinq_mem (q := 163) (by decide +kernel)) (Or.inr ⟨rfl, hin, rfl⟩) (.object "DeadStick$Hands") (by decide +kernel) rfl rfl (Nat.le_of_ble_eq_true rfl) (show decode cX10_init 75 = .ok (.putfield 43, 3) by decide +kernel) (fun H locs hP hD hS => ?_)
  refine lv_aload_n hx hb (show decode cX10_init 78 = .ok (.aload_n 0, 1) by decide +kernel) rfl (lv_at hl 0 rfl) ?_
  refine n_new hx hb hts hown hK hP hD hS hA (ci := 7) (N := 4) rfl (xinq_mem (q := 102) (by decide +kernel)) (xinq_mem (q := 103) (by decide +kernel)) (xinq_mem (q := 5) (by decide +kernel)) [.int 0, .int 0, .null, .int 0] tyX7 tyX7_ok (fun j hj => by match j, hj with | 0, _ => rfl | 1, _ => rfl | 2, _ => rfl | 3, _ => rfl | z + 4, h => exact absurd h (by omega)) (Nat.le_of_ble_eq_true rfl) (Nat.le_of_ble_eq_true rfl) (show decode cX10_init 79 = .ok (.new 25, 3) by decide +kernel) (fun q6 H hP hD hS => ?_)
  refine lv_dup hx hb (show decode cX10_init 82 = .ok (.dup, 1) by decide +kernel) rfl ?_
  refine lv_bipush (n := 7) (v := (7 : Int32)) hx hb (show decode cX10_init 83 = .ok (.bipush 7, 2) by decide +kernel) (by decide) ?_
  refine lv_iconst (n := 3) (v := (3 : Int32)) hx hb (show decode cX10_init 85 = .ok (.iconst 3, 1) by decide +kernel) (by decide) ?_
  refine n_calp (rm := { frames := 1, cells := 1, slots := 21, locals := 20 }) hx hb hml hown hts hI hP hD hS hA (nX7 l D gc (7 : Int32) (3 : Int32) 21 (by decide) (by decide) (by decide) (by decide) (by decide)) (index := 27) (xinq_mem (q := 104) (by decide +kernel)) (xinq_mem (q := 106) (by decide +kernel)) (xinq_mem (q := 5) (by decide +kernel)) (xinq_mem (q := 105) (by decide +kernel)) rfl rfl rfl (by decide +kernel) (by decide) hl.1 (Nat.le_of_ble_eq_true rfl) ⟨Nat.le_of_ble_eq_true rfl, Nat.le_of_ble_eq_true rfl⟩ (show decode cX10_init 86 = .ok (.invokespecial 27, 3) by decide +kernel) (fun f6 H locs h0 hP8 hD8 hS => ?_)
  subst h0
  have hP := hP8
  have hD := hD8
  clear hP8 hD8
  refine n_put (v := .ref (f6 0)) hx hb hts hown hK hP hD hS (ci := 10) (N := 9) rfl 6 (by decide) (xinq_mem (q := 165) (by decide +kernel)) (Or.inr ⟨rfl, hin, rfl⟩) (.object "DeadStick$Rows") (by decide +kernel) rfl rfl (Nat.le_of_ble_eq_true rfl) (show decode cX10_init 89 = .ok (.putfield 47, 3) by decide +kernel) (fun H locs hP hD hS => ?_)
  refine lv_aload_n hx hb (show decode cX10_init 92 = .ok (.aload_n 0, 1) by decide +kernel) rfl (lv_at hl 0 rfl) ?_
  refine n_new hx hb hts hown hK hP hD hS hA (ci := 7) (N := 4) rfl (xinq_mem (q := 102) (by decide +kernel)) (xinq_mem (q := 103) (by decide +kernel)) (xinq_mem (q := 5) (by decide +kernel)) [.int 0, .int 0, .null, .int 0] tyX7 tyX7_ok (fun j hj => by match j, hj with | 0, _ => rfl | 1, _ => rfl | 2, _ => rfl | 3, _ => rfl | z + 4, h => exact absurd h (by omega)) (Nat.le_of_ble_eq_true rfl) (Nat.le_of_ble_eq_true rfl) (show decode cX10_init 93 = .ok (.new 25, 3) by decide +kernel) (fun q7 H hP hD hS => ?_)
  refine lv_dup hx hb (show decode cX10_init 96 = .ok (.dup, 1) by decide +kernel) rfl ?_
  refine lv_bipush (n := 8) (v := (8 : Int32)) hx hb (show decode cX10_init 97 = .ok (.bipush 8, 2) by decide +kernel) (by decide) ?_
  refine lv_iconst (n := 1) (v := (1 : Int32)) hx hb (show decode cX10_init 99 = .ok (.iconst 1, 1) by decide +kernel) (by decide) ?_
  refine n_calp (rm := { frames := 1, cells := 1, slots := 8, locals := 20 }) hx hb hml hown hts hI hP hD hS hA (nX7 l D gc (8 : Int32) (1 : Int32) 8 (by decide) (by decide) (by decide) (by decide) (by decide)) (index := 27) (xinq_mem (q := 104) (by decide +kernel)) (xinq_mem (q := 106) (by decide +kernel)) (xinq_mem (q := 5) (by decide +kernel)) (xinq_mem (q := 105) (by decide +kernel)) rfl rfl rfl (by decide +kernel) (by decide) hl.1 (Nat.le_of_ble_eq_true rfl) ⟨Nat.le_of_ble_eq_true rfl, Nat.le_of_ble_eq_true rfl⟩ (show decode cX10_init 100 = .ok (.invokespecial 27, 3) by decide +kernel) (fun f7 H locs h0 hP8 hD8 hS => ?_)
  subst h0
  have hP := hP8
  have hD := hD8
  clear hP8 hD8
  refine n_put (v := .ref (f7 0)) hx hb hts hown hK hP hD hS (ci := 10) (N := 9) rfl 7 (by decide) (xinq_mem (q := 167) (by decide +kernel)) (Or.inr ⟨rfl, hin, rfl⟩) (.object "DeadStick$Rows") (by decide +kernel) rfl rfl (Nat.le_of_ble_eq_true rfl) (show decode cX10_init 103 = .ok (.putfield 50, 3) by decide +kernel) (fun H locs hP hD hS => ?_)
  refine lv_aload_n hx hb (show decode cX10_init 106 = .ok (.aload_n 0, 1) by decide +kernel) rfl (lv_at hl 0 rfl) ?_
  refine n_new hx hb hts hown hK hP hD hS hA (ci := 7) (N := 4) rfl (xinq_mem (q := 102) (by decide +kernel)) (xinq_mem (q := 103) (by decide +kernel)) (xinq_mem (q := 5) (by decide +kernel)) [.int 0, .int 0, .null, .int 0] tyX7 tyX7_ok (fun j hj => by match j, hj with | 0, _ => rfl | 1, _ => rfl | 2, _ => rfl | 3, _ => rfl | z + 4, h => exact absurd h (by omega)) (Nat.le_of_ble_eq_true rfl) (Nat.le_of_ble_eq_true rfl) (show decode cX10_init 107 = .ok (.new 25, 3) by decide +kernel) (fun q8 H hP hD hS => ?_)
  refine lv_dup hx hb (show decode cX10_init 110 = .ok (.dup, 1) by decide +kernel) rfl ?_
  refine lv_bipush (n := 20) (v := (20 : Int32)) hx hb (show decode cX10_init 111 = .ok (.bipush 20, 2) by decide +kernel) (by decide) ?_
  refine lv_iconst (n := 3) (v := (3 : Int32)) hx hb (show decode cX10_init 113 = .ok (.iconst 3, 1) by decide +kernel) (by decide) ?_
  refine n_calp (rm := { frames := 1, cells := 1, slots := 60, locals := 20 }) hx hb hml hown hts hI hP hD hS hA (nX7 l D gc (20 : Int32) (3 : Int32) 60 (by decide) (by decide) (by decide) (by decide) (by decide)) (index := 27) (xinq_mem (q := 104) (by decide +kernel)) (xinq_mem (q := 106) (by decide +kernel)) (xinq_mem (q := 5) (by decide +kernel)) (xinq_mem (q := 105) (by decide +kernel)) rfl rfl rfl (by decide +kernel) (by decide) hl.1 (Nat.le_of_ble_eq_true rfl) ⟨Nat.le_of_ble_eq_true rfl, Nat.le_of_ble_eq_true rfl⟩ (show decode cX10_init 114 = .ok (.invokespecial 27, 3) by decide +kernel) (fun f8 H locs h0 hP8 hD8 hS => ?_)
  subst h0
  have hP := hP8
  have hD := hD8
  clear hP8 hD8
  refine n_put (v := .ref (f8 0)) hx hb hts hown hK hP hD hS (ci := 10) (N := 9) rfl 8 (by decide) (xinq_mem (q := 169) (by decide +kernel)) (Or.inr ⟨rfl, hin, rfl⟩) (.object "DeadStick$Rows") (by decide +kernel) rfl rfl (Nat.le_of_ble_eq_true rfl) (show decode cX10_init 117 = .ok (.putfield 53, 3) by decide +kernel) (fun H locs hP hD hS => ?_)
  have hP9 : va_P D clX ((BX10 gc) (fun k => xnd 0 [a, f0 0, f0 1, f0 2, f0 3, f1 0, f2 0, f2 1, f3 0, f3 1, f4 0, f4 1, f5 0, f5 1, f5 2, f5 3, f6 0, f6 1, f7 0, f7 1, f8 0, f8 1] k)) _ := hP
  have hD9 : va_D A ((BX10 gc) (fun k => xnd 0 [a, f0 0, f0 1, f0 2, f0 3, f1 0, f2 0, f2 1, f3 0, f3 1, f4 0, f4 1, f5 0, f5 1, f5 2, f5 3, f6 0, f6 1, f7 0, f7 1, f8 0, f8 1] k)) := hD
  refine W.widen (k := 21) (n := 667) (Nat.le_of_ble_eq_true rfl) (Nat.le_of_ble_eq_true rfl) ?_
  exact W.vret hx hb hr (fun t ht hW => ⟨⟨_, rfl, rfl, by rw [ht]; exact hP9, hD9⟩, hS.F ht⟩) hS.2.2 (show decode cX10_init 120 = .ok (.return_, 1) by decide +kernel)
