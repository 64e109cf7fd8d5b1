/-! CONSTRUCTORS, part 2: those that make no object -/
def BX2 (gc : Nat → ClassId) (g : Nat → Nat) : va_W := (g 0, .inr (2, [.int (0 : Int32), .int (1 : Int32), .int (1 : Int32), .int (60 : Int32), .int (0 : Int32)])) :: []
set_option maxHeartbeats 4000000 in
set_option maxRecDepth 100000 in
theorem nX2 (l : Launch) (D : va_G) (gc : Nat → ClassId) : nMet l D gc yX2_init cX2_init 1 { frames := 1, cells := 0, slots := 0, locals := 20 } 2 [.int 0, .int 0, .int 0, .int 0, .int 0] [] 0 0 (BX2 gc) := by
  intro a sz
  refine Met.ofW (cc := cX2_init) (maxL := 1) (ret := none) (by decide) rfl ?_
  intro p e s m args below meth c s₁ B hml hv
  obtain ⟨rfl, hsz, hP, hI, hD0⟩ := hv
  have hx := B.exec
  have hb := B.bytes
  have hr := B.returns
  have hts0 := atoms_spec (ws := .code yX2_init cX2_init 1 none :: xTs) B.pre
  have hts : ∀ w ∈ xTs, w.before _ s = true := fun w hw => hts0 w (List.mem_cons_of_mem _ hw)
  clear hts0
  have hown : s.vm.findClass RX2 = some m.cls := findClass_of_methodNamed B.named
  have hlocks := B.notSynchronized
  have hin : meth.name = "<init>" := (name_of_methodNamed B.named B.method).1
  have hK := hI.1
  subst hsz
  have hD := hD0.self (sz := s.heap.size)
  generalize hAe : va_A [(a, .inr (2, ([.int 0, .int 0, .int 0, .int 0, .int 0] : List Value)))] s.heap.size = A at hD ⊢
  have hA : ∀ q : Nat, s.heap.size ≤ q → A q := fun q h => by rw [← hAe]; exact Or.inr h
  have hS : va_S A s.heap s.heap [] := va_S.rf
  have hl := lv_entry ([.ref a] : List Value) (n := 1) (Nat.le_of_ble_eq_true rfl)
  rw [lg_entry_eq]
  generalize (lg_sl ([.ref a] : List Value) ++ List.replicate (1 - (lg_sl ([.ref a] : List Value)).length) Slot.unset).toArray = ls at hl ⊢
  have hl : lv_has ls 1 [(0, .ref a)] := hl

  refine lv_aload_n hx hb (show decode cX2_init 0 = .ok (.aload_n 0, 1) by decide +kernel) rfl (lv_at hl 0 rfl) ?_
  refine W.objInit hx hb hown (hts _ (xinq_mem (q := 64) (by decide +kernel))) (hts _ (xinq_mem (q := 27) (by decide +kernel))) (hts _ (xinq_mem (q := 28) (by decide +kernel))) rfl (by rw [hml]; exact hl.1) rfl (show decode cX2_init 1 = .ok (.invokespecial 1, 3) by decide +kernel) (Nat.le_of_ble_eq_true rfl) (Nat.le_of_ble_eq_true rfl) ?_
  refine W.eq (g2 := F0 m 4 ls []) rfl ?_
  refine lv_aload_n hx hb (show decode cX2_init 4 = .ok (.aload_n 0, 1) by decide +kernel) rfl (lv_at hl 0 rfl) ?_
  refine lv_iconst (n := 0) (v := (0 : Int32)) hx hb (show decode cX2_init 5 = .ok (.iconst 0, 1) by decide +kernel) (by decide) ?_
  refine n_put (v := .int (0 : Int32)) hx hb hts hown hK hP hD hS (ci := 2) (N := 5) rfl 0 (by decide) (xinq_mem (q := 65) (by decide +kernel)) (Or.inl rfl) .int (by decide +kernel) rfl rfl (Nat.le_of_ble_eq_true rfl) (show decode cX2_init 6 = .ok (.putfield 7, 3) by decide +kernel) (fun H locs hP hD hS => ?_)
  refine lv_aload_n hx hb (show decode cX2_init 9 = .ok (.aload_n 0, 1) by decide +kernel) rfl (lv_at hl 0 rfl) ?_
  refine lv_iconst (n := 1) (v := (1 : Int32)) hx hb (show decode cX2_init 10 = .ok (.iconst 1, 1) by decide +kernel) (by decide) ?_
  refine n_put (v := .int (1 : Int32)) hx hb hts hown hK hP hD hS (ci := 2) (N := 5) rfl 1 (by decide) (xinq_mem (q := 72) (by decide +kernel)) (Or.inl rfl) .int (by decide +kernel) rfl rfl (Nat.le_of_ble_eq_true rfl) (show decode cX2_init 11 = .ok (.putfield 13, 3) by decide +kernel) (fun H locs hP hD hS => ?_)
  refine lv_aload_n hx hb (show decode cX2_init 14 = .ok (.aload_n 0, 1) by decide +kernel) rfl (lv_at hl 0 rfl) ?_
  refine lv_iconst (n := 1) (v := (1 : Int32)) hx hb (show decode cX2_init 15 = .ok (.iconst 1, 1) by decide +kernel) (by decide) ?_
  refine n_put (v := .int (1 : Int32)) hx hb hts hown hK hP hD hS (ci := 2) (N := 5) rfl 2 (by decide) (xinq_mem (q := 76) (by decide +kernel)) (Or.inl rfl) .int (by decide +kernel) rfl rfl (Nat.le_of_ble_eq_true rfl) (show decode cX2_init 16 = .ok (.putfield 16, 3) by decide +kernel) (fun H locs hP hD hS => ?_)
  refine lv_aload_n hx hb (show decode cX2_init 19 = .ok (.aload_n 0, 1) by decide +kernel) rfl (lv_at hl 0 rfl) ?_
  refine lv_bipush (n := 60) (v := (60 : Int32)) hx hb (show decode cX2_init 20 = .ok (.bipush 60, 2) by decide +kernel) (by decide) ?_
  refine n_put (v := .int (60 : Int32)) hx hb hts hown hK hP hD hS (ci := 2) (N := 5) rfl 3 (by decide) (xinq_mem (q := 81) (by decide +kernel)) (Or.inl rfl) .int (by decide +kernel) rfl rfl (Nat.le_of_ble_eq_true rfl) (show decode cX2_init 22 = .ok (.putfield 19, 3) by decide +kernel) (fun H locs hP hD hS => ?_)
  refine lv_aload_n hx hb (show decode cX2_init 25 = .ok (.aload_n 0, 1) by decide +kernel) rfl (lv_at hl 0 rfl) ?_
  refine lv_iconst (n := 0) (v := (0 : Int32)) hx hb (show decode cX2_init 26 = .ok (.iconst 0, 1) by decide +kernel) (by decide) ?_
  refine n_put (v := .int (0 : Int32)) hx hb hts hown hK hP hD hS (ci := 2) (N := 5) rfl 4 (by decide) (xinq_mem (q := 87) (by decide +kernel)) (Or.inl rfl) .int (by decide +kernel) rfl rfl (Nat.le_of_ble_eq_true rfl) (show decode cX2_init 27 = .ok (.putfield 22, 3) by decide +kernel) (fun H locs hP hD hS => ?_)
  have hP9 : va_P D clX ((BX2 gc) (fun k => xnd 0 [a] k)) _ := hP
  have hD9 : va_D A ((BX2 gc) (fun k => xnd 0 [a] k)) := hD
  refine W.widen (k := 0) (n := 0) (Nat.le_of_ble_eq_true rfl) (Nat.le_of_ble_eq_true rfl) ?_
  exact W.vret hx hb hr (fun t ht hW => ⟨⟨_, rfl, rfl, by rw [ht]; exact hP9, hD9⟩, hS.F ht⟩) hS.2.2 (show decode cX2_init 30 = .ok (.return_, 1) by decide +kernel)
def BX0 (gc : Nat → ClassId) (g : Nat → Nat) : va_W := (g 0, .inr (0, [.ref (g 1), .int (0 : Int32), .int (0 : Int32), .int (0 : Int32), .int (0 : Int32), .int (0 : Int32)])) :: ([] ++ [(g 1, .inl (gc 1, (30, .inl (fun _ => 0))))])
set_option maxHeartbeats 4000000 in
set_option maxRecDepth 100000 in
theorem nX0 (l : Launch) (D : va_G) (gc : Nat → ClassId) : nMet l D gc yX0_init cX0_init 1 { frames := 1, cells := 1, slots := 30, locals := 20 } 0 [.null, .int 0, .int 0, .int 0, .int 0, .int 0] [] 1 30 (BX0 gc) := by
  intro a sz
  refine Met.ofW (cc := cX0_init) (maxL := 1) (ret := none) (by decide) rfl ?_
  intro p e s m args below meth c s₁ B hml hv
  obtain ⟨rfl, hsz, hP, hI, hD0⟩ := hv
  have hx := B.exec
  have hb := B.bytes
  have hr := B.returns
  have hts0 := atoms_spec (ws := .code yX0_init cX0_init 1 none :: xTs) B.pre
  have hts : ∀ w ∈ xTs, w.before _ s = true := fun w hw => hts0 w (List.mem_cons_of_mem _ hw)
  clear hts0
  have hown : s.vm.findClass RX0 = some m.cls := findClass_of_methodNamed B.named
  have hlocks := B.notSynchronized
  have hin : meth.name = "<init>" := (name_of_methodNamed B.named B.method).1
  have hK := hI.1
  subst hsz
  have hD := hD0.self (sz := s.heap.size)
  generalize hAe : va_A [(a, .inr (0, ([.null, .int 0, .int 0, .int 0, .int 0, .int 0] : List Value)))] s.heap.size = A at hD ⊢
  have hA : ∀ q : Nat, s.heap.size ≤ q → A q := fun q h => by rw [← hAe]; exact Or.inr h
  have hS : va_S A s.heap s.heap [] := va_S.rf
  have hl := lv_entry ([.ref a] : List Value) (n := 1) (Nat.le_of_ble_eq_true rfl)
  rw [lg_entry_eq]
  generalize (lg_sl ([.ref a] : List Value) ++ List.replicate (1 - (lg_sl ([.ref a] : List Value)).length) Slot.unset).toArray = ls at hl ⊢
  have hl : lv_has ls 1 [(0, .ref a)] := hl

  refine lv_aload_n hx hb (show decode cX0_init 0 = .ok (.aload_n 0, 1) by decide +kernel) rfl (lv_at hl 0 rfl) ?_
  refine W.objInit hx hb hown (hts _ (xinq_mem (q := 1052) (by decide +kernel))) (hts _ (xinq_mem (q := 27) (by decide +kernel))) (hts _ (xinq_mem (q := 28) (by decide +kernel))) rfl (by rw [hml]; exact hl.1) rfl (show decode cX0_init 1 = .ok (.invokespecial 3, 3) by decide +kernel) (Nat.le_of_ble_eq_true rfl) (Nat.le_of_ble_eq_true rfl) ?_
  refine W.eq (g2 := F0 m 4 ls []) rfl ?_
  refine lv_aload_n hx hb (show decode cX0_init 4 = .ok (.aload_n 0, 1) by decide +kernel) rfl (lv_at hl 0 rfl) ?_
  refine lv_bipush (n := 30) (v := (30 : Int32)) hx hb (show decode cX0_init 5 = .ok (.bipush 30, 2) by decide +kernel) (by decide) ?_
  refine n_newa (N := 30) hx hb hts hK hP hD hS hA (xinq_mem (q := 58) (by decide +kernel)) rfl 0 rfl (Or.inl rfl) (by decide) (by decide) (by decide) (Nat.le_of_ble_eq_true rfl) (Nat.le_of_ble_eq_true rfl) (show decode cX0_init 7 = .ok (.newarray .int, 2) by decide +kernel) (fun q0 H hP hD hS => ?_)
  refine n_put (v := .ref q0) hx hb hts hown hK hP hD hS (ci := 0) (N := 6) rfl 0 (by decide) (xinq_mem (q := 1053) (by decide +kernel)) (Or.inr ⟨rfl, hin, rfl⟩) (.array .int) (by decide +kernel) rfl rfl (Nat.le_of_ble_eq_true rfl) (show decode cX0_init 9 = .ok (.putfield 9, 3) by decide +kernel) (fun H locs hP hD hS => ?_)
  refine lv_aload_n hx hb (show decode cX0_init 12 = .ok (.aload_n 0, 1) by decide +kernel) rfl (lv_at hl 0 rfl) ?_
  refine lv_iconst (n := 0) (v := (0 : Int32)) hx hb (show decode cX0_init 13 = .ok (.iconst 0, 1) by decide +kernel) (by decide) ?_
  refine n_put (v := .int (0 : Int32)) hx hb hts hown hK hP hD hS (ci := 0) (N := 6) rfl 1 (by decide) (xinq_mem (q := 1055) (by decide +kernel)) (Or.inl rfl) .int (by decide +kernel) rfl rfl (Nat.le_of_ble_eq_true rfl) (show decode cX0_init 14 = .ok (.putfield 15, 3) by decide +kernel) (fun H locs hP hD hS => ?_)
  refine lv_aload_n hx hb (show decode cX0_init 17 = .ok (.aload_n 0, 1) by decide +kernel) rfl (lv_at hl 0 rfl) ?_
  refine lv_iconst (n := 0) (v := (0 : Int32)) hx hb (show decode cX0_init 18 = .ok (.iconst 0, 1) by decide +kernel) (by decide) ?_
  refine n_put (v := .int (0 : Int32)) hx hb hts hown hK hP hD hS (ci := 0) (N := 6) rfl 2 (by decide) (xinq_mem (q := 1057) (by decide +kernel)) (Or.inl rfl) .int (by decide +kernel) rfl rfl (Nat.le_of_ble_eq_true rfl) (show decode cX0_init 19 = .ok (.putfield 19, 3) by decide +kernel) (fun H locs hP hD hS => ?_)
  refine lv_aload_n hx hb (show decode cX0_init 22 = .ok (.aload_n 0, 1) by decide +kernel) rfl (lv_at hl 0 rfl) ?_
  refine lv_iconst (n := 0) (v := (0 : Int32)) hx hb (show decode cX0_init 23 = .ok (.iconst 0, 1) by decide +kernel) (by decide) ?_
  refine n_put (v := .int (0 : Int32)) hx hb hts hown hK hP hD hS (ci := 0) (N := 6) rfl 3 (by decide) (xinq_mem (q := 1058) (by decide +kernel)) (Or.inl rfl) .int (by decide +kernel) rfl rfl (Nat.le_of_ble_eq_true rfl) (show decode cX0_init 24 = .ok (.putfield 22, 3) by decide +kernel) (fun H locs hP hD hS => ?_)
  refine lv_aload_n hx hb (show decode cX0_init 27 = .ok (.aload_n 0, 1) by decide +kernel) rfl (lv_at hl 0 rfl) ?_
  refine lv_iconst (n := 0) (v := (0 : Int32)) hx hb (show decode cX0_init 28 = .ok (.iconst 0, 1) by decide +kernel) (by decide) ?_
  refine n_put (v := .int (0 : Int32)) hx hb hts hown hK hP hD hS (ci := 0) (N := 6) rfl 4 (by decide) (xinq_mem (q := 1059) (by decide +kernel)) (Or.inl rfl) .int (by decide +kernel) rfl rfl (Nat.le_of_ble_eq_true rfl) (show decode cX0_init 29 = .ok (.putfield 25, 3) by decide +kernel) (fun H locs hP hD hS => ?_)
  refine lv_aload_n hx hb (show decode cX0_init 32 = .ok (.aload_n 0, 1) by decide +kernel) rfl (lv_at hl 0 rfl) ?_
  refine lv_iconst (n := 0) (v := (0 : Int32)) hx hb (show decode cX0_init 33 = .ok (.iconst 0, 1) by decide +kernel) (by decide) ?_
  refine n_put (v := .int (0 : Int32)) hx hb hts hown hK hP hD hS (ci := 0) (N := 6) rfl 5 (by decide) (xinq_mem (q := 1060) (by decide +kernel)) (Or.inl rfl) .boolean (by decide +kernel) rfl rfl (Nat.le_of_ble_eq_true rfl) (show decode cX0_init 34 = .ok (.putfield 28, 3) by decide +kernel) (fun H locs hP hD hS => ?_)
  have hP9 : va_P D clX ((BX0 gc) (fun k => xnd 0 [a, q0] k)) _ := hP
  have hD9 : va_D A ((BX0 gc) (fun k => xnd 0 [a, q0] k)) := hD
  refine W.widen (k := 1) (n := 30) (Nat.le_of_ble_eq_true rfl) (Nat.le_of_ble_eq_true rfl) ?_
  exact W.vret hx hb hr (fun t ht hW => ⟨⟨_, rfl, rfl, by rw [ht]; exact hP9, hD9⟩, hS.F ht⟩) hS.2.2 (show decode cX0_init 37 = .ok (.return_, 1) by decide +kernel)
def BX1 (gc : Nat → ClassId) (g : Nat → Nat) : va_W := (g 0, .inr (1, [.ref (g 1)])) :: ([] ++ [(g 1, .inl (gc 1, (128, .inl (fun _ => 0))))])
set_option maxHeartbeats 4000000 in
set_option maxRecDepth 100000 in
theorem nX1 (l : Launch) (D : va_G) (gc : Nat → ClassId) : nMet l D gc yX1_init cX1_init 1 { frames := 1, cells := 1, slots := 128, locals := 20 } 1 [.null] [] 1 128 (BX1 gc) := by
  intro a sz
  refine Met.ofW (cc := cX1_init) (maxL := 1) (ret := none) (by decide) rfl ?_
  intro p e s m args below meth c s₁ B hml hv
  obtain ⟨rfl, hsz, hP, hI, hD0⟩ := hv
  have hx := B.exec
  have hb := B.bytes
  have hr := B.returns
  have hts0 := atoms_spec (ws := .code yX1_init cX1_init 1 none :: xTs) B.pre
  have hts : ∀ w ∈ xTs, w.before _ s = true := fun w hw => hts0 w (List.mem_cons_of_mem _ hw)
  clear hts0
  have hown : s.vm.findClass RX1 = some m.cls := findClass_of_methodNamed B.named
  have hlocks := B.notSynchronized
  have hin : meth.name = "<init>" := (name_of_methodNamed B.named B.method).1
  have hK := hI.1
  subst hsz
  have hD := hD0.self (sz := s.heap.size)
  generalize hAe : va_A [(a, .inr (1, ([.null] : List Value)))] s.heap.size = A at hD ⊢
  have hA : ∀ q : Nat, s.heap.size ≤ q → A q := fun q h => by rw [← hAe]; exact Or.inr h
  have hS : va_S A s.heap s.heap [] := va_S.rf
  have hl := lv_entry ([.ref a] : List Value) (n := 1) (Nat.le_of_ble_eq_true rfl)
  rw [lg_entry_eq]
  generalize (lg_sl ([.ref a] : List Value) ++ List.replicate (1 - (lg_sl ([.ref a] : List Value)).length) Slot.unset).toArray = ls at hl ⊢
  have hl : lv_has ls 1 [(0, .ref a)] := hl

  refine lv_aload_n hx hb (show decode cX1_init 0 = .ok (.aload_n 0, 1) by decide +kernel) rfl (lv_at hl 0 rfl) ?_
  refine W.objInit hx hb hown (hts _ (xinq_mem (q := 1042) (by decide +kernel))) (hts _ (xinq_mem (q := 27) (by decide +kernel))) (hts _ (xinq_mem (q := 28) (by decide +kernel))) rfl (by rw [hml]; exact hl.1) rfl (show decode cX1_init 1 = .ok (.invokespecial 3, 3) by decide +kernel) (Nat.le_of_ble_eq_true rfl) (Nat.le_of_ble_eq_true rfl) ?_
  refine W.eq (g2 := F0 m 4 ls []) rfl ?_
  refine lv_aload_n hx hb (show decode cX1_init 4 = .ok (.aload_n 0, 1) by decide +kernel) rfl (lv_at hl 0 rfl) ?_
  refine lv_sipush (n := 128) (v := (128 : Int32)) hx hb (show decode cX1_init 5 = .ok (.sipush 128, 3) by decide +kernel) (by decide) ?_
  refine n_newa (N := 128) hx hb hts hK hP hD hS hA (xinq_mem (q := 58) (by decide +kernel)) rfl 0 rfl (Or.inl rfl) (by decide) (by decide) (by decide) (Nat.le_of_ble_eq_true rfl) (Nat.le_of_ble_eq_true rfl) (show decode cX1_init 8 = .ok (.newarray .int, 2) by decide +kernel) (fun q0 H hP hD hS => ?_)
  refine n_put (v := .ref q0) hx hb hts hown hK hP hD hS (ci := 1) (N := 1) rfl 0 (by decide) (xinq_mem (q := 1043) (by decide +kernel)) (Or.inr ⟨rfl, hin, rfl⟩) (.array .int) (by decide +kernel) rfl rfl (Nat.le_of_ble_eq_true rfl) (show decode cX1_init 10 = .ok (.putfield 11, 3) by decide +kernel) (fun H locs hP hD hS => ?_)
  have hP9 : va_P D clX ((BX1 gc) (fun k => xnd 0 [a, q0] k)) _ := hP
  have hD9 : va_D A ((BX1 gc) (fun k => xnd 0 [a, q0] k)) := hD
  refine W.widen (k := 1) (n := 128) (Nat.le_of_ble_eq_true rfl) (Nat.le_of_ble_eq_true rfl) ?_
  exact W.vret hx hb hr (fun t ht hW => ⟨⟨_, rfl, rfl, by rw [ht]; exact hP9, hD9⟩, hS.F ht⟩) hS.2.2 (show decode cX1_init 13 = .ok (.return_, 1) by decide +kernel)
def BX4 (gc : Nat → ClassId) (g : Nat → Nat) : va_W := (g 0, .inr (4, [.ref (g 1), .ref (g 2), .ref (g 3), .int (0 : Int32)])) :: ((([] ++ [(g 1, .inl (gc 1, (9, .inl (fun _ => 0))))]) ++ [(g 2, .inl (gc 1, (10, .inl (fun _ => 0))))]) ++ [(g 3, .inl (gc 1, (240, .inl (fun _ => 0))))])
set_option maxHeartbeats 4000000 in
set_option maxRecDepth 100000 in
theorem nX4 (l : Launch) (D : va_G) (gc : Nat → ClassId) : nMet l D gc yX4_init cX4_init 1 { frames := 1, cells := 3, slots := 259, locals := 20 } 4 [.null, .null, .null, .int 0] [] 3 259 (BX4 gc) := by
  intro a sz
  refine Met.ofW (cc := cX4_init) (maxL := 1) (ret := none) (by decide) rfl ?_
  intro p e s m args below meth c s₁ B hml hv
  obtain ⟨rfl, hsz, hP, hI, hD0⟩ := hv
  have hx := B.exec
  have hb := B.bytes
  have hr := B.returns
  have hts0 := atoms_spec (ws := .code yX4_init cX4_init 1 none :: xTs) B.pre
  have hts : ∀ w ∈ xTs, w.before _ s = true := fun w hw => hts0 w (List.mem_cons_of_mem _ hw)
  clear hts0
  have hown : s.vm.findClass RX4 = some m.cls := findClass_of_methodNamed B.named
  have hlocks := B.notSynchronized
  have hin : meth.name = "<init>" := (name_of_methodNamed B.named B.method).1
  have hK := hI.1
  subst hsz
  have hD := hD0.self (sz := s.heap.size)
  generalize hAe : va_A [(a, .inr (4, ([.null, .null, .null, .int 0] : List Value)))] s.heap.size = A at hD ⊢
  have hA : ∀ q : Nat, s.heap.size ≤ q → A q := fun q h => by rw [← hAe]; exact Or.inr h
  have hS : va_S A s.heap s.heap [] := va_S.rf
  have hl := lv_entry ([.ref a] : List Value) (n := 1) (Nat.le_of_ble_eq_true rfl)
  rw [lg_entry_eq]
  generalize (lg_sl ([.ref a] : List Value) ++ List.replicate (1 - (lg_sl ([.ref a] : List Value)).length) Slot.unset).toArray = ls at hl ⊢
  have hl : lv_has ls 1 [(0, .ref a)] := hl

  refine lv_aload_n hx hb (show decode cX4_init 0 = .ok (.aload_n 0, 1) by decide +kernel) rfl (lv_at hl 0 rfl) ?_
  refine W.objInit hx hb hown (hts _ (xinq_mem (q := 133) (by decide +kernel))) (hts _ (xinq_mem (q := 27) (by decide +kernel))) (hts _ (xinq_mem (q := 28) (by decide +kernel))) rfl (by rw [hml]; exact hl.1) rfl (show decode cX4_init 1 = .ok (.invokespecial 3, 3) by decide +kernel) (Nat.le_of_ble_eq_true rfl) (Nat.le_of_ble_eq_true rfl) ?_
  refine W.eq (g2 := F0 m 4 ls []) rfl ?_
  refine lv_aload_n hx hb (show decode cX4_init 4 = .ok (.aload_n 0, 1) by decide +kernel) rfl (lv_at hl 0 rfl) ?_
  refine lv_bipush (n := 9) (v := (9 : Int32)) hx hb (show decode cX4_init 5 = .ok (.bipush 9, 2) by decide +kernel) (by decide) ?_
  refine n_newa (N := 9) hx hb hts hK hP hD hS hA (xinq_mem (q := 58) (by decide +kernel)) rfl 0 rfl (Or.inl rfl) (by decide) (by decide) (by decide) (Nat.le_of_ble_eq_true rfl) (Nat.le_of_ble_eq_true rfl) (show decode cX4_init 7 = .ok (.newarray .int, 2) by decide +kernel) (fun q0 H hP hD hS => ?_)
  refine n_put (v := .ref q0) hx hb hts hown hK hP hD hS (ci := 4) (N := 4) rfl 0 (by decide) (xinq_mem (q := 134) (by decide +kernel)) (Or.inr ⟨rfl, hin, rfl⟩) (.array .int) (by decide +kernel) rfl rfl (Nat.le_of_ble_eq_true rfl) (show decode cX4_init 9 = .ok (.putfield 9, 3) by decide +kernel) (fun H locs hP hD hS => ?_)
  refine lv_aload_n hx hb (show decode cX4_init 12 = .ok (.aload_n 0, 1) by decide +kernel) rfl (lv_at hl 0 rfl) ?_
  refine lv_bipush (n := 10) (v := (10 : Int32)) hx hb (show decode cX4_init 13 = .ok (.bipush 10, 2) by decide +kernel) (by decide) ?_
  refine n_newa (N := 10) hx hb hts hK hP hD hS hA (xinq_mem (q := 58) (by decide +kernel)) rfl 0 rfl (Or.inl rfl) (by decide) (by decide) (by decide) (Nat.le_of_ble_eq_true rfl) (Nat.le_of_ble_eq_true rfl) (show decode cX4_init 15 = .ok (.newarray .int, 2) by decide +kernel) (fun q1 H hP hD hS => ?_)
  refine n_put (v := .ref q1) hx hb hts hown hK hP hD hS (ci := 4) (N := 4) rfl 1 (by decide) (xinq_mem (q := 136) (by decide +kernel)) (Or.inr ⟨rfl, hin, rfl⟩) (.array .int) (by decide +kernel) rfl rfl (Nat.le_of_ble_eq_true rfl) (show decode cX4_init 17 = .ok (.putfield 15, 3) by decide +kernel) (fun H locs hP hD hS => ?_)
  refine lv_aload_n hx hb (show decode cX4_init 20 = .ok (.aload_n 0, 1) by decide +kernel) rfl (lv_at hl 0 rfl) ?_
  refine lv_sipush (n := 240) (v := (240 : Int32)) hx hb (show decode cX4_init 21 = .ok (.sipush 240, 3) by decide +kernel) (by decide) ?_
  refine n_newa (N := 240) hx hb hts hK hP hD hS hA (xinq_mem (q := 58) (by decide +kernel)) rfl 0 rfl (Or.inl rfl) (by decide) (by decide) (by decide) (Nat.le_of_ble_eq_true rfl) (Nat.le_of_ble_eq_true rfl) (show decode cX4_init 24 = .ok (.newarray .int, 2) by decide +kernel) (fun q2 H hP hD hS => ?_)
  refine n_put (v := .ref q2) hx hb hts hown hK hP hD hS (ci := 4) (N := 4) rfl 2 (by decide) (xinq_mem (q := 137) (by decide +kernel)) (Or.inr ⟨rfl, hin, rfl⟩) (.array .int) (by decide +kernel) rfl rfl (Nat.le_of_ble_eq_true rfl) (show decode cX4_init 26 = .ok (.putfield 18, 3) by decide +kernel) (fun H locs hP hD hS => ?_)
  refine lv_aload_n hx hb (show decode cX4_init 29 = .ok (.aload_n 0, 1) by decide +kernel) rfl (lv_at hl 0 rfl) ?_
  refine lv_iconst (n := 0) (v := (0 : Int32)) hx hb (show decode cX4_init 30 = .ok (.iconst 0, 1) by decide +kernel) (by decide) ?_
  refine n_put (v := .int (0 : Int32)) hx hb hts hown hK hP hD hS (ci := 4) (N := 4) rfl 3 (by decide) (xinq_mem (q := 138) (by decide +kernel)) (Or.inl rfl) .int (by decide +kernel) rfl rfl (Nat.le_of_ble_eq_true rfl) (show decode cX4_init 31 = .ok (.putfield 21, 3) by decide +kernel) (fun H locs hP hD hS => ?_)
  have hP9 : va_P D clX ((BX4 gc) (fun k => xnd 0 [a, q0, q1, q2] k)) _ := hP
  have hD9 : va_D A ((BX4 gc) (fun k => xnd 0 [a, q0, q1, q2] k)) := hD
  refine W.widen (k := 3) (n := 259) (Nat.le_of_ble_eq_true rfl) (Nat.le_of_ble_eq_true rfl) ?_
  exact W.vret hx hb hr (fun t ht hW => ⟨⟨_, rfl, rfl, by rw [ht]; exact hP9, hD9⟩, hS.F ht⟩) hS.2.2 (show decode cX4_init 34 = .ok (.return_, 1) by decide +kernel)
def BX5 (gc : Nat → ClassId) (g : Nat → Nat) : va_W := (g 0, .inr (5, [.int (8 : Int32), .int (8 : Int32), .ref (g 1), .ref (g 2), .ref (g 3)])) :: ((([] ++ [(g 1, .inl (gc 1, (64, .inl (fun _ => 0))))]) ++ [(g 2, .inl (gc 1, (64, .inl (fun _ => 0))))]) ++ [(g 3, .inl (gc 1, (9, .inl (upd (upd (upd (upd (upd (upd (upd (upd (upd (fun _ => 0) ((0 : Int32)).toNatClampNeg (3 : Int32)) ((1 : Int32)).toNatClampNeg (2 : Int32)) ((2 : Int32)).toNatClampNeg (4 : Int32)) ((3 : Int32)).toNatClampNeg (2 : Int32)) ((4 : Int32)).toNatClampNeg (1 : Int32)) ((5 : Int32)).toNatClampNeg (0 : Int32)) ((6 : Int32)).toNatClampNeg (0 : Int32)) ((7 : Int32)).toNatClampNeg (0 : Int32)) ((8 : Int32)).toNatClampNeg (0 : Int32)))))])
set_option maxHeartbeats 4000000 in
set_option maxRecDepth 100000 in
theorem nX5 (l : Launch) (D : va_G) (gc : Nat → ClassId) : nMet l D gc yX5_init cX5_init 1 { frames := 1, cells := 3, slots := 137, locals := 20 } 5 [.int 0, .int 0, .null, .null, .null] [] 3 137 (BX5 gc) := by
  intro a sz
  refine Met.ofW (cc := cX5_init) (maxL := 1) (ret := none) (by decide) rfl ?_
  intro p e s m args below meth c s₁ B hml hv
  obtain ⟨rfl, hsz, hP, hI, hD0⟩ := hv
  have hx := B.exec
  have hb := B.bytes
  have hr := B.returns
  have hts0 := atoms_spec (ws := .code yX5_init cX5_init 1 none :: xTs) B.pre
  have hts : ∀ w ∈ xTs, w.before _ s = true := fun w hw => hts0 w (List.mem_cons_of_mem _ hw)
  clear hts0
  have hown : s.vm.findClass RX5 = some m.cls := findClass_of_methodNamed B.named
  have hlocks := B.notSynchronized
  have hin : meth.name = "<init>" := (name_of_methodNamed B.named B.method).1
  have hK := hI.1
  subst hsz
  have hD := hD0.self (sz := s.heap.size)
  generalize hAe : va_A [(a, .inr (5, ([.int 0, .int 0, .null, .null, .null] : List Value)))] s.heap.size = A at hD ⊢
  have hA : ∀ q : Nat, s.heap.size ≤ q → A q := fun q h => by rw [← hAe]; exact Or.inr h
  have hS : va_S A s.heap s.heap [] := va_S.rf
  have hl := lv_entry ([.ref a] : List Value) (n := 1) (Nat.le_of_ble_eq_true rfl)
  rw [lg_entry_eq]
  generalize (lg_sl ([.ref a] : List Value) ++ List.replicate (1 - (lg_sl ([.ref a] : List Value)).length) Slot.unset).toArray = ls at hl ⊢
  have hl : lv_has ls 1 [(0, .ref a)] := hl

  refine lv_aload_n hx hb (show decode cX5_init 0 = .ok (.aload_n 0, 1) by decide +kernel) rfl (lv_at hl 0 rfl) ?_
  refine W.objInit hx hb hown (hts _ (xinq_mem (q := 40) (by decide +kernel))) (hts _ (xinq_mem (q := 27) (by decide +kernel))) (hts _ (xinq_mem (q := 28) (by decide +kernel))) rfl (by rw [hml]; exact hl.1) rfl (show decode cX5_init 1 = .ok (.invokespecial 3, 3) by decide +kernel) (Nat.le_of_ble_eq_true rfl) (Nat.le_of_ble_eq_true rfl) ?_
  refine W.eq (g2 := F0 m 4 ls []) rfl ?_
  refine lv_aload_n hx hb (show decode cX5_init 4 = .ok (.aload_n 0, 1) by decide +kernel) rfl (lv_at hl 0 rfl) ?_
  refine lv_bipush (n := 8) (v := (8 : Int32)) hx hb (show decode cX5_init 5 = .ok (.bipush 8, 2) by decide +kernel) (by decide) ?_
  refine n_put (v := .int (8 : Int32)) hx hb hts hown hK hP hD hS (ci := 5) (N := 5) rfl 0 (by decide) (xinq_mem (q := 41) (by decide +kernel)) (Or.inl rfl) .int (by decide +kernel) rfl rfl (Nat.le_of_ble_eq_true rfl) (show decode cX5_init 7 = .ok (.putfield 9, 3) by decide +kernel) (fun H locs hP hD hS => ?_)
  refine lv_aload_n hx hb (show decode cX5_init 10 = .ok (.aload_n 0, 1) by decide +kernel) rfl (lv_at hl 0 rfl) ?_
  refine lv_bipush (n := 8) (v := (8 : Int32)) hx hb (show decode cX5_init 11 = .ok (.bipush 8, 2) by decide +kernel) (by decide) ?_
  refine n_put (v := .int (8 : Int32)) hx hb hts hown hK hP hD hS (ci := 5) (N := 5) rfl 1 (by decide) (xinq_mem (q := 42) (by decide +kernel)) (Or.inl rfl) .int (by decide +kernel) rfl rfl (Nat.le_of_ble_eq_true rfl) (show decode cX5_init 13 = .ok (.putfield 15, 3) by decide +kernel) (fun H locs hP hD hS => ?_)
  refine lv_aload_n hx hb (show decode cX5_init 16 = .ok (.aload_n 0, 1) by decide +kernel) rfl (lv_at hl 0 rfl) ?_
  refine lv_bipush (n := 64) (v := (64 : Int32)) hx hb (show decode cX5_init 17 = .ok (.bipush 64, 2) by decide +kernel) (by decide) ?_
  refine n_newa (N := 64) hx hb hts hK hP hD hS hA (xinq_mem (q := 58) (by decide +kernel)) rfl 0 rfl (Or.inl rfl) (by decide) (by decide) (by decide) (Nat.le_of_ble_eq_true rfl) (Nat.le_of_ble_eq_true rfl) (show decode cX5_init 19 = .ok (.newarray .int, 2) by decide +kernel) (fun q0 H hP hD hS => ?_)
  refine n_put (v := .ref q0) hx hb hts hown hK hP hD hS (ci := 5) (N := 5) rfl 2 (by decide) (xinq_mem (q := 43) (by decide +kernel)) (Or.inr ⟨rfl, hin, rfl⟩) (.array .int) (by decide +kernel) rfl rfl (Nat.le_of_ble_eq_true rfl) (show decode cX5_init 21 = .ok (.putfield 18, 3) by decide +kernel) (fun H locs hP hD hS => ?_)
  refine lv_aload_n hx hb (show decode cX5_init 24 = .ok (.aload_n 0, 1) by decide +kernel) rfl (lv_at hl 0 rfl) ?_
  refine lv_bipush (n := 64) (v := (64 : Int32)) hx hb (show decode cX5_init 25 = .ok (.bipush 64, 2) by decide +kernel) (by decide) ?_
  refine n_newa (N := 64) hx hb hts hK hP hD hS hA (xinq_mem (q := 58) (by decide +kernel)) rfl 0 rfl (Or.inl rfl) (by decide) (by decide) (by decide) (Nat.le_of_ble_eq_true rfl) (Nat.le_of_ble_eq_true rfl) (show decode cX5_init 27 = .ok (.newarray .int, 2) by decide +kernel) (fun q1 H hP hD hS => ?_)
  refine n_put (v := .ref q1) hx hb hts hown hK hP hD hS (ci := 5) (N := 5) rfl 3 (by decide) (xinq_mem (q := 44) (by decide +kernel)) (Or.inr ⟨rfl, hin, rfl⟩) (.array .int) (by decide +kernel) rfl rfl (Nat.le_of_ble_eq_true rfl) (show decode cX5_init 29 = .ok (.putfield 22, 3) by decide +kernel) (fun H locs hP hD hS => ?_)
  refine lv_aload_n hx hb (show decode cX5_init 32 = .ok (.aload_n 0, 1) by decide +kernel) rfl (lv_at hl 0 rfl) ?_
  refine lv_bipush (n := 9) (v := (9 : Int32)) hx hb (show decode cX5_init 33 = .ok (.bipush 9, 2) by decide +kernel) (by decide) ?_
  refine n_newa (N := 9) hx hb hts hK hP hD hS hA (xinq_mem (q := 58) (by decide +kernel)) rfl 0 rfl (Or.inl rfl) (by decide) (by decide) (by decide) (Nat.le_of_ble_eq_true rfl) (Nat.le_of_ble_eq_true rfl) (show decode cX5_init 35 = .ok (.newarray .int, 2) by decide +kernel) (fun q2 H hP hD hS => ?_)
  refine lv_dup hx hb (show decode cX5_init 37 = .ok (.dup, 1) by decide +kernel) rfl ?_
  refine lv_iconst (n := 0) (v := (0 : Int32)) hx hb (show decode cX5_init 38 = .ok (.iconst 0, 1) by decide +kernel) (by decide) ?_
  refine lv_iconst (n := 3) (v := (3 : Int32)) hx hb (show decode cX5_init 39 = .ok (.iconst 3, 1) by decide +kernel) (by decide) ?_
  refine n_iast hx hb hK hP hD hS 0 rfl (by unfold vp_in; decide) (show decode cX5_init 40 = .ok (.iastore, 1) by decide +kernel) (fun H locs hP hD hS => ?_)
  refine lv_dup hx hb (show decode cX5_init 41 = .ok (.dup, 1) by decide +kernel) rfl ?_
  refine lv_iconst (n := 1) (v := (1 : Int32)) hx hb (show decode cX5_init 42 = .ok (.iconst 1, 1) by decide +kernel) (by decide) ?_
  refine lv_iconst (n := 2) (v := (2 : Int32)) hx hb (show decode cX5_init 43 = .ok (.iconst 2, 1) by decide +kernel) (by decide) ?_
  refine n_iast hx hb hK hP hD hS 0 rfl (by unfold vp_in; decide) (show decode cX5_init 44 = .ok (.iastore, 1) by decide +kernel) (fun H locs hP hD hS => ?_)
  refine lv_dup hx hb (show decode cX5_init 45 = .ok (.dup, 1) by decide +kernel) rfl ?_
  refine lv_iconst (n := 2) (v := (2 : Int32)) hx hb (show decode cX5_init 46 = .ok (.iconst 2, 1) by decide +kernel) (by decide) ?_
  refine lv_iconst (n := 4) (v := (4 : Int32)) hx hb (show decode cX5_init 47 = .ok (.iconst 4, 1) by decide +kernel) (by decide) ?_
  refine n_iast hx hb hK hP hD hS 0 rfl (by unfold vp_in; decide) (show decode cX5_init 48 = .ok (.iastore, 1) by decide +kernel) (fun H locs hP hD hS => ?_)
  refine lv_dup hx hb (show decode cX5_init 49 = .ok (.dup, 1) by decide +kernel) rfl ?_
  refine lv_iconst (n := 3) (v := (3 : Int32)) hx hb (show decode cX5_init 50 = .ok (.iconst 3, 1) by decide +kernel) (by decide) ?_
  refine lv_iconst (n := 2) (v := (2 : Int32)) hx hb (show decode cX5_init 51 = .ok (.iconst 2, 1) by decide +kernel) (by decide) ?_
  refine n_iast hx hb hK hP hD hS 0 rfl (by unfold vp_in; decide) (show decode cX5_init 52 = .ok (.iastore, 1) by decide +kernel) (fun H locs hP hD hS => ?_)
  refine lv_dup hx hb (show decode cX5_init 53 = .ok (.dup, 1) by decide +kernel) rfl ?_
  refine lv_iconst (n := 4) (v := (4 : Int32)) hx hb (show decode cX5_init 54 = .ok (.iconst 4, 1) by decide +kernel) (by decide) ?_
  refine lv_iconst (n := 1) (v := (1 : Int32)) hx hb (show decode cX5_init 55 = .ok (.iconst 1, 1) by decide +kernel) (by decide) ?_
  refine n_iast hx hb hK hP hD hS 0 rfl (by unfold vp_in; decide) (show decode cX5_init 56 = .ok (.iastore, 1) by decide +kernel) (fun H locs hP hD hS => ?_)
  refine lv_dup hx hb (show decode cX5_init 57 = .ok (.dup, 1) by decide +kernel) rfl ?_
  refine lv_iconst (n := 5) (v := (5 : Int32)) hx hb (show decode cX5_init 58 = .ok (.iconst 5, 1) by decide +kernel) (by decide) ?_
  refine lv_iconst (n := 0) (v := (0 : Int32)) hx hb (show decode cX5_init 59 = .ok (.iconst 0, 1) by decide +kernel) (by decide) ?_
  refine n_iast hx hb hK hP hD hS 0 rfl (by unfold vp_in; decide) (show decode cX5_init 60 = .ok (.iastore, 1) by decide +kernel) (fun H locs hP hD hS => ?_)
  refine lv_dup hx hb (show decode cX5_init 61 = .ok (.dup, 1) by decide +kernel) rfl ?_
  refine lv_bipush (n := 6) (v := (6 : Int32)) hx hb (show decode cX5_init 62 = .ok (.bipush 6, 2) by decide +kernel) (by decide) ?_
  refine lv_iconst (n := 0) (v := (0 : Int32)) hx hb (show decode cX5_init 64 = .ok (.iconst 0, 1) by decide +kernel) (by decide) ?_
  refine n_iast hx hb hK hP hD hS 0 rfl (by unfold vp_in; decide) (show decode cX5_init 65 = .ok (.iastore, 1) by decide +kernel) (fun H locs hP hD hS => ?_)
  refine lv_dup hx hb (show decode cX5_init 66 = .ok (.dup, 1) by decide +kernel) rfl ?_
  refine lv_bipush (n := 7) (v := (7 : Int32)) hx hb (show decode cX5_init 67 = .ok (.bipush 7, 2) by decide +kernel) (by decide) ?_
  refine lv_iconst (n := 0) (v := (0 : Int32)) hx hb (show decode cX5_init 69 = .ok (.iconst 0, 1) by decide +kernel) (by decide) ?_
  refine n_iast hx hb hK hP hD hS 0 rfl (by unfold vp_in; decide) (show decode cX5_init 70 = .ok (.iastore, 1) by decide +kernel) (fun H locs hP hD hS => ?_)
  refine lv_dup hx hb (show decode cX5_init 71 = .ok (.dup, 1) by decide +kernel) rfl ?_
  refine lv_bipush (n := 8) (v := (8 : Int32)) hx hb (show decode cX5_init 72 = .ok (.bipush 8, 2) by decide +kernel) (by decide) ?_
  refine lv_iconst (n := 0) (v := (0 : Int32)) hx hb (show decode cX5_init 74 = .ok (.iconst 0, 1) by decide +kernel) (by decide) ?_
  refine n_iast hx hb hK hP hD hS 0 rfl (by unfold vp_in; decide) (show decode cX5_init 75 = .ok (.iastore, 1) by decide +kernel) (fun H locs hP hD hS => ?_)
  refine n_put (v := .ref q2) hx hb hts hown hK hP hD hS (ci := 5) (N := 5) rfl 4 (by decide) (xinq_mem (q := 45) (by decide +kernel)) (Or.inr ⟨rfl, hin, rfl⟩) (.array .int) (by decide +kernel) rfl rfl (Nat.le_of_ble_eq_true rfl) (show decode cX5_init 76 = .ok (.putfield 25, 3) by decide +kernel) (fun H locs hP hD hS => ?_)
  have hP9 : va_P D clX ((BX5 gc) (fun k => xnd 0 [a, q0, q1, q2] k)) _ := hP
  have hD9 : va_D A ((BX5 gc) (fun k => xnd 0 [a, q0, q1, q2] k)) := hD
  refine W.widen (k := 3) (n := 137) (Nat.le_of_ble_eq_true rfl) (Nat.le_of_ble_eq_true rfl) ?_
  exact W.vret hx hb hr (fun t ht hW => ⟨⟨_, rfl, rfl, by rw [ht]; exact hP9, hD9⟩, hS.F ht⟩) hS.2.2 (show decode cX5_init 79 = .ok (.return_, 1) by decide +kernel)
def BX6 (gc : Nat → ClassId) (g : Nat → Nat) : va_W := (g 0, .inr (6, [.ref (g 1), .ref (g 2), .ref (g 3), .ref (g 4)])) :: (((([] ++ [(g 1, .inl (gc 1, (768, .inl (fun _ => 0))))]) ++ [(g 2, .inl (gc 1, (100, .inl (fun _ => 0))))]) ++ [(g 3, .inl (gc 1, (768, .inl (fun _ => 0))))]) ++ [(g 4, .inl (gc 1, (768, .inl (fun _ => 0))))])
set_option maxHeartbeats 4000000 in
set_option maxRecDepth 100000 in
theorem nX6 (l : Launch) (D : va_G) (gc : Nat → ClassId) : nMet l D gc yX6_init cX6_init 1 { frames := 1, cells := 4, slots := 2404, locals := 20 } 6 [.null, .null, .null, .null] [] 4 2404 (BX6 gc) := by
  intro a sz
  refine Met.ofW (cc := cX6_init) (maxL := 1) (ret := none) (by decide) rfl ?_
  intro p e s m args below meth c s₁ B hml hv
  obtain ⟨rfl, hsz, hP, hI, hD0⟩ := hv
  have hx := B.exec
  have hb := B.bytes
  have hr := B.returns
  have hts0 := atoms_spec (ws := .code yX6_init cX6_init 1 none :: xTs) B.pre
  have hts : ∀ w ∈ xTs, w.before _ s = true := fun w hw => hts0 w (List.mem_cons_of_mem _ hw)
  clear hts0
  have hown : s.vm.findClass RX6 = some m.cls := findClass_of_methodNamed B.named
  have hlocks := B.notSynchronized
  have hin : meth.name = "<init>" := (name_of_methodNamed B.named B.method).1
  have hK := hI.1
  subst hsz
  have hD := hD0.self (sz := s.heap.size)
  generalize hAe : va_A [(a, .inr (6, ([.null, .null, .null, .null] : List Value)))] s.heap.size = A at hD ⊢
  have hA : ∀ q : Nat, s.heap.size ≤ q → A q := fun q h => by rw [← hAe]; exact Or.inr h
  have hS : va_S A s.heap s.heap [] := va_S.rf
  have hl := lv_entry ([.ref a] : List Value) (n := 1) (Nat.le_of_ble_eq_true rfl)
  rw [lg_entry_eq]
  generalize (lg_sl ([.ref a] : List Value) ++ List.replicate (1 - (lg_sl ([.ref a] : List Value)).length) Slot.unset).toArray = ls at hl ⊢
  have hl : lv_has ls 1 [(0, .ref a)] := hl

  refine lv_aload_n hx hb (show decode cX6_init 0 = .ok (.aload_n 0, 1) by decide +kernel) rfl (lv_at hl 0 rfl) ?_
  refine W.objInit hx hb hown (hts _ (xinq_mem (q := 218) (by decide +kernel))) (hts _ (xinq_mem (q := 27) (by decide +kernel))) (hts _ (xinq_mem (q := 28) (by decide +kernel))) rfl (by rw [hml]; exact hl.1) rfl (show decode cX6_init 1 = .ok (.invokespecial 5, 3) by decide +kernel) (Nat.le_of_ble_eq_true rfl) (Nat.le_of_ble_eq_true rfl) ?_
  refine W.eq (g2 := F0 m 4 ls []) rfl ?_
  refine lv_aload_n hx hb (show decode cX6_init 4 = .ok (.aload_n 0, 1) by decide +kernel) rfl (lv_at hl 0 rfl) ?_
  refine lv_sipush (n := 768) (v := (768 : Int32)) hx hb (show decode cX6_init 5 = .ok (.sipush 768, 3) by decide +kernel) (by decide) ?_
  refine n_newa (N := 768) hx hb hts hK hP hD hS hA (xinq_mem (q := 58) (by decide +kernel)) rfl 0 rfl (Or.inl rfl) (by decide) (by decide) (by decide) (Nat.le_of_ble_eq_true rfl) (Nat.le_of_ble_eq_true rfl) (show decode cX6_init 8 = .ok (.newarray .int, 2) by decide +kernel) (fun q0 H hP hD hS => ?_)
  refine n_put (v := .ref q0) hx hb hts hown hK hP hD hS (ci := 6) (N := 4) rfl 0 (by decide) (xinq_mem (q := 219) (by decide +kernel)) (Or.inr ⟨rfl, hin, rfl⟩) (.array .int) (by decide +kernel) rfl rfl (Nat.le_of_ble_eq_true rfl) (show decode cX6_init 10 = .ok (.putfield 11, 3) by decide +kernel) (fun H locs hP hD hS => ?_)
  refine lv_aload_n hx hb (show decode cX6_init 13 = .ok (.aload_n 0, 1) by decide +kernel) rfl (lv_at hl 0 rfl) ?_
  refine lv_bipush (n := 100) (v := (100 : Int32)) hx hb (show decode cX6_init 14 = .ok (.bipush 100, 2) by decide +kernel) (by decide) ?_
  refine n_newa (N := 100) hx hb hts hK hP hD hS hA (xinq_mem (q := 58) (by decide +kernel)) rfl 0 rfl (Or.inl rfl) (by decide) (by decide) (by decide) (Nat.le_of_ble_eq_true rfl) (Nat.le_of_ble_eq_true rfl) (show decode cX6_init 16 = .ok (.newarray .int, 2) by decide +kernel) (fun q1 H hP hD hS => ?_)
  refine n_put (v := .ref q1) hx hb hts hown hK hP hD hS (ci := 6) (N := 4) rfl 1 (by decide) (xinq_mem (q := 220) (by decide +kernel)) (Or.inr ⟨rfl, hin, rfl⟩) (.array .int) (by decide +kernel) rfl rfl (Nat.le_of_ble_eq_true rfl) (show decode cX6_init 18 = .ok (.putfield 15, 3) by decide +kernel) (fun H locs hP hD hS => ?_)
  refine lv_aload_n hx hb (show decode cX6_init 21 = .ok (.aload_n 0, 1) by decide +kernel) rfl (lv_at hl 0 rfl) ?_
  refine lv_sipush (n := 768) (v := (768 : Int32)) hx hb (show decode cX6_init 22 = .ok (.sipush 768, 3) by decide +kernel) (by decide) ?_
  refine n_newa (N := 768) hx hb hts hK hP hD hS hA (xinq_mem (q := 58) (by decide +kernel)) rfl 0 rfl (Or.inl rfl) (by decide) (by decide) (by decide) (Nat.le_of_ble_eq_true rfl) (Nat.le_of_ble_eq_true rfl) (show decode cX6_init 25 = .ok (.newarray .int, 2) by decide +kernel) (fun q2 H hP hD hS => ?_)
  refine n_put (v := .ref q2) hx hb hts hown hK hP hD hS (ci := 6) (N := 4) rfl 2 (by decide) (xinq_mem (q := 221) (by decide +kernel)) (Or.inr ⟨rfl, hin, rfl⟩) (.array .int) (by decide +kernel) rfl rfl (Nat.le_of_ble_eq_true rfl) (show decode cX6_init 27 = .ok (.putfield 18, 3) by decide +kernel) (fun H locs hP hD hS => ?_)
  refine lv_aload_n hx hb (show decode cX6_init 30 = .ok (.aload_n 0, 1) by decide +kernel) rfl (lv_at hl 0 rfl) ?_
  refine lv_sipush (n := 768) (v := (768 : Int32)) hx hb (show decode cX6_init 31 = .ok (.sipush 768, 3) by decide +kernel) (by decide) ?_
  refine n_newa (N := 768) hx hb hts hK hP hD hS hA (xinq_mem (q := 58) (by decide +kernel)) rfl 0 rfl (Or.inl rfl) (by decide) (by decide) (by decide) (Nat.le_of_ble_eq_true rfl) (Nat.le_of_ble_eq_true rfl) (show decode cX6_init 34 = .ok (.newarray .int, 2) by decide +kernel) (fun q3 H hP hD hS => ?_)
  refine n_put (v := .ref q3) hx hb hts hown hK hP hD hS (ci := 6) (N := 4) rfl 3 (by decide) (xinq_mem (q := 222) (by decide +kernel)) (Or.inr ⟨rfl, hin, rfl⟩) (.array .int) (by decide +kernel) rfl rfl (Nat.le_of_ble_eq_true rfl) (show decode cX6_init 36 = .ok (.putfield 21, 3) by decide +kernel) (fun H locs hP hD hS => ?_)
  have hP9 : va_P D clX ((BX6 gc) (fun k => xnd 0 [a, q0, q1, q2, q3] k)) _ := hP
  have hD9 : va_D A ((BX6 gc) (fun k => xnd 0 [a, q0, q1, q2, q3] k)) := hD
  refine W.widen (k := 4) (n := 2404) (Nat.le_of_ble_eq_true rfl) (Nat.le_of_ble_eq_true rfl) ?_
  exact W.vret hx hb hr (fun t ht hW => ⟨⟨_, rfl, rfl, by rw [ht]; exact hP9, hD9⟩, hS.F ht⟩) hS.2.2 (show decode cX6_init 39 = .ok (.return_, 1) by decide +kernel)
def BX8 (gc : Nat → ClassId) (g : Nat → Nat) : va_W := (g 0, .inr (8, [.int (-1 : Int32), .int (0 : Int32), .ref (g 1)])) :: ([] ++ [(g 1, .inl (gc 1, (64, .inl (fun _ => 0))))])
set_option maxHeartbeats 4000000 in
set_option maxRecDepth 100000 in
theorem nX8 (l : Launch) (D : va_G) (gc : Nat → ClassId) : nMet l D gc yX8_init cX8_init 1 { frames := 1, cells := 1, slots := 64, locals := 20 } 8 [.int 0, .int 0, .null] [] 1 64 (BX8 gc) := by
  intro a sz
  refine Met.ofW (cc := cX8_init) (maxL := 1) (ret := none) (by decide) rfl ?_
  intro p e s m args below meth c s₁ B hml hv
  obtain ⟨rfl, hsz, hP, hI, hD0⟩ := hv
  have hx := B.exec
  have hb := B.bytes
  have hr := B.returns
  have hts0 := atoms_spec (ws := .code yX8_init cX8_init 1 none :: xTs) B.pre
  have hts : ∀ w ∈ xTs, w.before _ s = true := fun w hw => hts0 w (List.mem_cons_of_mem _ hw)
  clear hts0
  have hown : s.vm.findClass RX8 = some m.cls := findClass_of_methodNamed B.named
  have hlocks := B.notSynchronized
  have hin : meth.name = "<init>" := (name_of_methodNamed B.named B.method).1
  have hK := hI.1
  subst hsz
  have hD := hD0.self (sz := s.heap.size)
  generalize hAe : va_A [(a, .inr (8, ([.int 0, .int 0, .null] : List Value)))] s.heap.size = A at hD ⊢
  have hA : ∀ q : Nat, s.heap.size ≤ q → A q := fun q h => by rw [← hAe]; exact Or.inr h
  have hS : va_S A s.heap s.heap [] := va_S.rf
  have hl := lv_entry ([.ref a] : List Value) (n := 1) (Nat.le_of_ble_eq_true rfl)
  rw [lg_entry_eq]
  generalize (lg_sl ([.ref a] : List Value) ++ List.replicate (1 - (lg_sl ([.ref a] : List Value)).length) Slot.unset).toArray = ls at hl ⊢
  have hl : lv_has ls 1 [(0, .ref a)] := hl

  refine lv_aload_n hx hb (show decode cX8_init 0 = .ok (.aload_n 0, 1) by decide +kernel) rfl (lv_at hl 0 rfl) ?_
  refine W.objInit hx hb hown (hts _ (xinq_mem (q := 1082) (by decide +kernel))) (hts _ (xinq_mem (q := 27) (by decide +kernel))) (hts _ (xinq_mem (q := 28) (by decide +kernel))) rfl (by rw [hml]; exact hl.1) rfl (show decode cX8_init 1 = .ok (.invokespecial 3, 3) by decide +kernel) (Nat.le_of_ble_eq_true rfl) (Nat.le_of_ble_eq_true rfl) ?_
  refine W.eq (g2 := F0 m 4 ls []) rfl ?_
  refine lv_aload_n hx hb (show decode cX8_init 4 = .ok (.aload_n 0, 1) by decide +kernel) rfl (lv_at hl 0 rfl) ?_
  refine lv_iconst (n := (-1)) (v := (-1 : Int32)) hx hb (show decode cX8_init 5 = .ok (.iconst (-1), 1) by decide +kernel) (by decide) ?_
  refine n_put (v := .int (-1 : Int32)) hx hb hts hown hK hP hD hS (ci := 8) (N := 3) rfl 0 (by decide) (xinq_mem (q := 1083) (by decide +kernel)) (Or.inl rfl) .int (by decide +kernel) rfl rfl (Nat.le_of_ble_eq_true rfl) (show decode cX8_init 6 = .ok (.putfield 9, 3) by decide +kernel) (fun H locs hP hD hS => ?_)
  refine lv_aload_n hx hb (show decode cX8_init 9 = .ok (.aload_n 0, 1) by decide +kernel) rfl (lv_at hl 0 rfl) ?_
  refine lv_iconst (n := 0) (v := (0 : Int32)) hx hb (show decode cX8_init 10 = .ok (.iconst 0, 1) by decide +kernel) (by decide) ?_
  refine n_put (v := .int (0 : Int32)) hx hb hts hown hK hP hD hS (ci := 8) (N := 3) rfl 1 (by decide) (xinq_mem (q := 1085) (by decide +kernel)) (Or.inl rfl) .int (by decide +kernel) rfl rfl (Nat.le_of_ble_eq_true rfl) (show decode cX8_init 11 = .ok (.putfield 15, 3) by decide +kernel) (fun H locs hP hD hS => ?_)
  refine lv_aload_n hx hb (show decode cX8_init 14 = .ok (.aload_n 0, 1) by decide +kernel) rfl (lv_at hl 0 rfl) ?_
  refine lv_bipush (n := 64) (v := (64 : Int32)) hx hb (show decode cX8_init 15 = .ok (.bipush 64, 2) by decide +kernel) (by decide) ?_
  refine n_newa (N := 64) hx hb hts hK hP hD hS hA (xinq_mem (q := 58) (by decide +kernel)) rfl 0 rfl (Or.inl rfl) (by decide) (by decide) (by decide) (Nat.le_of_ble_eq_true rfl) (Nat.le_of_ble_eq_true rfl) (show decode cX8_init 17 = .ok (.newarray .int, 2) by decide +kernel) (fun q0 H hP hD hS => ?_)
  refine n_put (v := .ref q0) hx hb hts hown hK hP hD hS (ci := 8) (N := 3) rfl 2 (by decide) (xinq_mem (q := 1087) (by decide +kernel)) (Or.inr ⟨rfl, hin, rfl⟩) (.array .int) (by decide +kernel) rfl rfl (Nat.le_of_ble_eq_true rfl) (show decode cX8_init 19 = .ok (.putfield 18, 3) by decide +kernel) (fun H locs hP hD hS => ?_)
  have hP9 : va_P D clX ((BX8 gc) (fun k => xnd 0 [a, q0] k)) _ := hP
  have hD9 : va_D A ((BX8 gc) (fun k => xnd 0 [a, q0] k)) := hD
  refine W.widen (k := 1) (n := 64) (Nat.le_of_ble_eq_true rfl) (Nat.le_of_ble_eq_true rfl) ?_
  exact W.vret hx hb hr (fun t ht hW => ⟨⟨_, rfl, rfl, by rw [ht]; exact hP9, hD9⟩, hS.F ht⟩) hS.2.2 (show decode cX8_init 22 = .ok (.return_, 1) by decide +kernel)
def BX7 (gc : Nat → ClassId) (p1 p2 : Int32) (N : Nat) (g : Nat → Nat) : va_W := (g 0, .inr (7, [.int p1, .int p2, .ref (g 1), .int (0 : Int32)])) :: ([] ++ [(g 1, .inl (gc 1, (N, .inl (fun _ => 0))))])
set_option maxHeartbeats 4000000 in
set_option maxRecDepth 100000 in
theorem nX7 (l : Launch) (D : va_G) (gc : Nat → ClassId) (p1 p2 : Int32) (N : Nat) (hNn : ¬ (p1 * p2) < 0) (hNe : (p1 * p2).toNatClampNeg = N) (hNb : N ≤ 100000) (hm1 : (if (0 : Int32) < p1 then p1 else 0) = p1) (hm2 : (if (0 : Int32) < p2 then p2 else 0) = p2) : nMet l D gc yX7_init cX7_init 3 { frames := 1, cells := 1, slots := N, locals := 20 } 7 [.int 0, .int 0, .null, .int 0] [.int p1, .int p2] 1 N (BX7 gc p1 p2 N) := by
  intro a sz
  refine Met.ofW (cc := cX7_init) (maxL := 3) (ret := none) (by decide) rfl ?_
  intro p e s m args below meth c s₁ B hml hv
  obtain ⟨rfl, hsz, hP, hI, hD0⟩ := hv
  have hx := B.exec
  have hb := B.bytes
  have hr := B.returns
  have hts0 := atoms_spec (ws := .code yX7_init cX7_init 3 none :: xTs) B.pre
  have hts : ∀ w ∈ xTs, w.before _ s = true := fun w hw => hts0 w (List.mem_cons_of_mem _ hw)
  clear hts0
  have hown : s.vm.findClass RX7 = some m.cls := findClass_of_methodNamed B.named
  have hlocks := B.notSynchronized
  have hin : meth.name = "<init>" := (name_of_methodNamed B.named B.method).1
  have hK := hI.1
  subst hsz
  have hD := hD0.self (sz := s.heap.size)
  generalize hAe : va_A [(a, .inr (7, ([.int 0, .int 0, .null, .int 0] : List Value)))] s.heap.size = A at hD ⊢
  have hA : ∀ q : Nat, s.heap.size ≤ q → A q := fun q h => by rw [← hAe]; exact Or.inr h
  have hS : va_S A s.heap s.heap [] := va_S.rf
  have hl := lv_entry ([.ref a, .int p1, .int p2] : List Value) (n := 3) (Nat.le_of_ble_eq_true rfl)
  rw [lg_entry_eq]
  generalize (lg_sl ([.ref a, .int p1, .int p2] : List Value) ++ List.replicate (3 - (lg_sl ([.ref a, .int p1, .int p2] : List Value)).length) Slot.unset).toArray = ls at hl ⊢
  have hl : lv_has ls 3 [(0, .ref a), (1, .int p1), (2, .int p2)] := hl

  refine lv_aload_n hx hb (show decode cX7_init 0 = .ok (.aload_n 0, 1) by decide +kernel) rfl (lv_at hl 0 rfl) ?_
  refine W.objInit hx hb hown (hts _ (xinq_mem (q := 107) (by decide +kernel))) (hts _ (xinq_mem (q := 27) (by decide +kernel))) (hts _ (xinq_mem (q := 28) (by decide +kernel))) rfl (by rw [hml]; exact hl.1) rfl (show decode cX7_init 1 = .ok (.invokespecial 3, 3) by decide +kernel) (Nat.le_of_ble_eq_true rfl) (Nat.le_of_ble_eq_true rfl) ?_
  refine W.eq (g2 := F0 m 4 ls []) rfl ?_
  refine lv_aload_n hx hb (show decode cX7_init 4 = .ok (.aload_n 0, 1) by decide +kernel) rfl (lv_at hl 0 rfl) ?_
  refine lv_iconst (n := 0) (v := (0 : Int32)) hx hb (show decode cX7_init 5 = .ok (.iconst 0, 1) by decide +kernel) (by decide) ?_
  refine n_put (v := .int (0 : Int32)) hx hb hts hown hK hP hD hS (ci := 7) (N := 4) rfl 3 (by decide) (xinq_mem (q := 114) (by decide +kernel)) (Or.inl rfl) .int (by decide +kernel) rfl rfl (Nat.le_of_ble_eq_true rfl) (show decode cX7_init 6 = .ok (.putfield 9, 3) by decide +kernel) (fun H locs hP hD hS => ?_)
  refine lv_aload_n hx hb (show decode cX7_init 9 = .ok (.aload_n 0, 1) by decide +kernel) rfl (lv_at hl 0 rfl) ?_
  refine lv_iconst (n := 0) (v := (0 : Int32)) hx hb (show decode cX7_init 10 = .ok (.iconst 0, 1) by decide +kernel) (by decide) ?_
  refine lv_iload_n hx hb (show decode cX7_init 11 = .ok (.iload_n 1, 1) by decide +kernel) rfl (lv_at hl 1 rfl) ?_
  refine va_mmax hx hb (by rw [hml]; exact hl.1.symm) hown (hts _ (xinq_mem (q := 108) (by decide +kernel))) (hts _ xsys.1.1) (hts _ xsys.1.2.1) (hts _ xsys.1.2.2) (Nat.le_of_ble_eq_true rfl) (Nat.le_of_ble_eq_true rfl) (Nat.zero_le _) (Nat.zero_le _) (show decode cX7_init 12 = .ok (.invokestatic 15, 3) by decide +kernel) ?_
  rw [hm1]
  refine n_put (v := .int p1) hx hb hts hown hK hP hD hS (ci := 7) (N := 4) rfl 0 (by decide) (xinq_mem (q := 111) (by decide +kernel)) (Or.inr ⟨rfl, hin, rfl⟩) .int (by decide +kernel) rfl rfl (Nat.le_of_ble_eq_true rfl) (show decode cX7_init 15 = .ok (.putfield 21, 3) by decide +kernel) (fun H locs hP hD hS => ?_)
  refine lv_aload_n hx hb (show decode cX7_init 18 = .ok (.aload_n 0, 1) by decide +kernel) rfl (lv_at hl 0 rfl) ?_
  refine lv_iconst (n := 0) (v := (0 : Int32)) hx hb (show decode cX7_init 19 = .ok (.iconst 0, 1) by decide +kernel) (by decide) ?_
  refine lv_iload_n hx hb (show decode cX7_init 20 = .ok (.iload_n 2, 1) by decide +kernel) rfl (lv_at hl 2 rfl) ?_
  refine va_mmax hx hb (by rw [hml]; exact hl.1.symm) hown (hts _ (xinq_mem (q := 108) (by decide +kernel))) (hts _ xsys.1.1) (hts _ xsys.1.2.1) (hts _ xsys.1.2.2) (Nat.le_of_ble_eq_true rfl) (Nat.le_of_ble_eq_true rfl) (Nat.zero_le _) (Nat.zero_le _) (show decode cX7_init 21 = .ok (.invokestatic 15, 3) by decide +kernel) ?_
  rw [hm2]
  refine n_put (v := .int p2) hx hb hts hown hK hP hD hS (ci := 7) (N := 4) rfl 1 (by decide) (xinq_mem (q := 112) (by decide +kernel)) (Or.inr ⟨rfl, hin, rfl⟩) .int (by decide +kernel) rfl rfl (Nat.le_of_ble_eq_true rfl) (show decode cX7_init 24 = .ok (.putfield 24, 3) by decide +kernel) (fun H locs hP hD hS => ?_)
  refine lv_aload_n hx hb (show decode cX7_init 27 = .ok (.aload_n 0, 1) by decide +kernel) rfl (lv_at hl 0 rfl) ?_
  refine lv_aload_n hx hb (show decode cX7_init 28 = .ok (.aload_n 0, 1) by decide +kernel) rfl (lv_at hl 0 rfl) ?_
  refine n_get (v := .int p1) hx hb hts hown hK hP (ci := 7) (N := 4) rfl 0 (by decide) (xinq_mem (q := 111) (by decide +kernel)) rfl (show decode cX7_init 29 = .ok (.getfield 21, 3) by decide +kernel) ?_
  refine lv_aload_n hx hb (show decode cX7_init 32 = .ok (.aload_n 0, 1) by decide +kernel) rfl (lv_at hl 0 rfl) ?_
  refine n_get (v := .int p2) hx hb hts hown hK hP (ci := 7) (N := 4) rfl 1 (by decide) (xinq_mem (q := 112) (by decide +kernel)) rfl (show decode cX7_init 33 = .ok (.getfield 24, 3) by decide +kernel) ?_
  refine lv_imul hx hb (show decode cX7_init 36 = .ok (.imul, 1) by decide +kernel) ?_
  refine n_newa (N := N) hx hb hts hK hP hD hS hA (xinq_mem (q := 58) (by decide +kernel)) rfl 0 rfl (Or.inl rfl) hNn hNe hNb (Nat.le_of_ble_eq_true rfl) (show 0 + N ≤ N by omega) (show decode cX7_init 37 = .ok (.newarray .int, 2) by decide +kernel) (fun q0 H hP hD hS => ?_)
  refine n_put (v := .ref q0) hx hb hts hown hK hP hD hS (ci := 7) (N := 4) rfl 2 (by decide) (xinq_mem (q := 113) (by decide +kernel)) (Or.inr ⟨rfl, hin, rfl⟩) (.array .int) (by decide +kernel) rfl rfl (Nat.le_of_ble_eq_true rfl) (show decode cX7_init 39 = .ok (.putfield 27, 3) by decide +kernel) (fun H locs hP hD hS => ?_)
  have hP9 : va_P D clX ((BX7 gc p1 p2 N) (fun k => xnd 0 [a, q0] k)) _ := hP
  have hD9 : va_D A ((BX7 gc p1 p2 N) (fun k => xnd 0 [a, q0] k)) := hD
  refine W.widen (k := 1) (n := N) (Nat.le_of_ble_eq_true rfl) (Nat.le_of_eq (Nat.zero_add N)) ?_
  exact W.vret hx hb hr (fun t ht hW => ⟨⟨_, rfl, rfl, by rw [ht]; exact hP9, hD9⟩, hS.F ht⟩) hS.2.2 (show decode cX7_init 42 = .ok (.return_, 1) by decide +kernel)
