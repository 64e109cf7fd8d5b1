/-! CONSTRUCTORS, part 6: DeadStick() -/
def BP11 (gc : Nat → ClassId) (g : Nat → Nat) : va_W := ((((((((([] ++ BX10 gc (fun z => g (1 + z))) ++ BX10 gc (fun z => g (23 + z))) ++ BX3 gc (fun z => g (45 + z))) ++ BX2 gc (fun z => g (49 + z))) ++ BX6 gc (fun z => g (50 + z))) ++ BX9 gc (fun z => g (55 + z))) ++ BX1 gc (fun z => g (64 + z))) ++ BX0 gc (fun z => g (66 + z))) ++ BX7 gc (30 : Int32) (2 : Int32) 60 (fun z => g (68 + z)))
def BX11 (gc : Nat → ClassId) (cA : ClassId) (g : Nat → Nat) : va_W := (((g 0, .inr (11, [.ref (g 1), .ref (g 23), .int (0 : Int32), .ref (g 45), .ref (g 49), .ref (g 50), .ref (g 55), .ref (g 64), .ref (g 66), .ref (g 68), .ref (g 70), .ref (g 72)])) :: BP11 gc g) ++ [(g 70, .inr (7, [.int (zI 4), .int (zI 3), .ref (g 71), .int (zI 4)])), (g 71, .inl (gc 1, (12, .inl (hI nZ4 71))))]) ++ ((g 72, .inl (cA, (4, .inr (.inr (.inr (.inr (va_up (va_up (va_up (va_up (fun _ => none) (0 : Int32).toNatClampNeg (some (g 73))) (1 : Int32).toNatClampNeg (some (g 75))) (2 : Int32).toNatClampNeg (some (g 77))) (3 : Int32).toNatClampNeg (some (g 79))))))))) :: (((([] ++ BX8 gc (fun z => g (73 + z))) ++ BX8 gc (fun z => g (75 + z))) ++ BX8 gc (fun z => g (77 + z))) ++ BX8 gc (fun z => g (79 + z))))
def nPre11 (G : xG) (a sz : Nat) (U : State) : Prop := U.heap.size = sz ∧ va_P (gD G) clX [(a, .inr (11, ([.null, .null, .int 0, .null, .null, .null, .null, .null, .null, .null, .null, .null] : List Value)))] U.heap ∧ nIn (gD G) (gcl G) U ∧ va_D (fun _ => True) [(a, .inr (11, ([.null, .null, .int 0, .null, .null, .null, .null, .null, .null, .null, .null, .null] : List Value)))] ∧ xBg G (va_A [(a, .inr (11, ([.null, .null, .int 0, .null, .null, .null, .null, .null, .null, .null, .null, .null] : List Value)))] sz) U ∧ va_AO "DeadStick$Sheet" U
set_option maxHeartbeats 8000000 in
set_option maxRecDepth 100000 in
theorem nX11 (l : Launch) (G : xG) (hov : (gov G).category = 1) (a sz : Nat) : Met l yX11_init (.code yX11_init cX11_init 2 none :: xTs) { frames := 10, cells := 80, slots := 5591, locals := 400 } (va_Pc [.ref a] (nPre11 G a sz)) (va_Qv (fun u : (Nat → Nat) × ClassId => u.1 0 = a) (fun u t => va_P (gD G) clX (BX11 (gcl G) u.2 u.1) t.heap ∧ va_D (va_A [(a, .inr (11, ([.null, .null, .int 0, .null, .null, .null, .null, .null, .null, .null, .null, .null] : List Value)))] sz) (BX11 (gcl G) u.2 u.1) ∧ va_K (gD G) clX (nTy (gcl G) ++ [(u.2, .object "DeadStick$Sheet")]) t) (va_A [(a, .inr (11, ([.null, .null, .int 0, .null, .null, .null, .null, .null, .null, .null, .null, .null] : List Value)))] sz)) 80 5591 (va_A [(a, .inr (11, ([.null, .null, .int 0, .null, .null, .null, .null, .null, .null, .null, .null, .null] : List Value)))] sz) := by
  refine Met.ofW (cc := cX11_init) (maxL := 2) (ret := none) (by decide) rfl ?_
  intro p e s m args below meth c s₁ B hml hv
  obtain ⟨rfl, hsz, hP, hIn, hD0, hBg, hAO⟩ := hv
  have hx := B.exec
  have hb := B.bytes
  have hr := B.returns
  have hts0 := atoms_spec (ws := .code yX11_init cX11_init 2 none :: xTs) B.pre
  have hts : ∀ w ∈ xTs, w.before _ s = true := fun w hw => hts0 w (List.mem_cons_of_mem _ hw)
  clear hts0
  have hown : s.vm.findClass RX11 = some m.cls := findClass_of_methodNamed B.named
  have hlocks := B.notSynchronized
  have hin : meth.name = "<init>" := (name_of_methodNamed B.named B.method).1
  have hK := hIn.1
  subst hsz
  have hD := hD0.self (sz := s.heap.size)
  generalize hAe : va_A [(a, .inr (11, ([.null, .null, .int 0, .null, .null, .null, .null, .null, .null, .null, .null, .null] : List Value)))] s.heap.size = A at hD hBg ⊢
  have hA : ∀ q : Nat, s.heap.size ≤ q → A q := fun q h => by rw [← hAe]; exact Or.inr h
  have hS : va_S A s.heap s.heap [] := va_S.rf
  have hl := lv_entry ([.ref a] : List Value) (n := 2) (Nat.le_of_ble_eq_true rfl)
  rw [lg_entry_eq]
  generalize (lg_sl ([.ref a] : List Value) ++ List.replicate (2 - (lg_sl ([.ref a] : List Value)).length) Slot.unset).toArray = ls at hl ⊢
  have hl : lv_has ls 2 [(0, .ref a)] := hl
  refine lv_aload_n hx hb (show decode cX11_init 0 = .ok (.aload_n 0, 1) by decide +kernel) rfl (lv_at hl 0 rfl) ?_
  refine W.objInit hx hb hown (hts _ (xinq_mem (q := 26) (by decide +kernel))) (hts _ (xinq_mem (q := 27) (by decide +kernel))) (hts _ (xinq_mem (q := 28) (by decide +kernel))) rfl (by rw [hml]; exact hl.1) rfl (show decode cX11_init 1 = .ok (.invokespecial 1, 3) by decide +kernel) (Nat.le_of_ble_eq_true rfl) (Nat.le_of_ble_eq_true rfl) ?_
  refine W.eq (g2 := F0 m 4 ls []) rfl ?_
  refine lv_aload_n hx hb (show decode cX11_init 4 = .ok (.aload_n 0, 1) by decide +kernel) rfl (lv_at hl 0 rfl) ?_
  refine n_new hx hb hts hown hK hP hD hS hA (ci := 10) (N := 9) rfl (xinq_mem (q := 29) (by decide +kernel)) (xinq_mem (q := 30) (by decide +kernel)) (xinq_mem (q := 2) (by decide +kernel)) [.null, .null, .null, .null, .null, .null, .null, .null, .null] tyX10 tyX10_ok (fun j hj => by match j, hj with | 0, _ => rfl | 1, _ => rfl | 2, _ => rfl | 3, _ => rfl | 4, _ => rfl | 5, _ => rfl | 6, _ => rfl | 7, _ => rfl | 8, _ => rfl | z + 9, h => exact absurd h (by omega)) (Nat.le_of_ble_eq_true rfl) (Nat.le_of_ble_eq_true rfl) (show decode cX11_init 5 = .ok (.new 7, 3) by decide +kernel) (fun q0 H hP hD hS => ?_)
  refine lv_dup hx hb (show decode cX11_init 8 = .ok (.dup, 1) by decide +kernel) rfl ?_
  refine n_call (rm := { frames := 2, cells := 21, slots := 667, locals := 60 }) hx hb hml hown hts hIn hP hD hS hA (nX10 l (gD G) (gcl G)) (index := 9) (by decide +kernel) (xinq_mem (q := 33) (by decide +kernel)) (xinq_mem (q := 2) (by decide +kernel)) (xinq_mem (q := 32) (by decide +kernel)) rfl rfl (by decide) (by decide) hl.1 (Nat.le_of_ble_eq_true rfl) ⟨Nat.le_of_ble_eq_true rfl, Nat.le_of_ble_eq_true rfl⟩ (show decode cX11_init 9 = .ok (.invokespecial 9, 3) by decide +kernel) (fun f0 H locs h0 hP8 hD8 hS => ?_)
  subst h0
  have hP := hP8
  have hD := hD8
  clear hP8 hD8
  refine n_put (v := .ref (f0 0)) hx hb hts hown hK hP hD hS (ci := 11) (N := 12) rfl 0 (by decide) (xinq_mem (q := 1107) (by decide +kernel)) (Or.inr ⟨rfl, hin, rfl⟩) (.object "DeadStick$World") (by decide +kernel) rfl rfl (Nat.le_of_ble_eq_true rfl) (show decode cX11_init 12 = .ok (.putfield 10, 3) by decide +kernel) (fun H locs hP hD hS => ?_)
  refine lv_aload_n hx hb (show decode cX11_init 15 = .ok (.aload_n 0, 1) by decide +kernel) rfl (lv_at hl 0 rfl) ?_
  refine n_new hx hb hts hown hK hP hD hS hA (ci := 10) (N := 9) rfl (xinq_mem (q := 29) (by decide +kernel)) (xinq_mem (q := 30) (by decide +kernel)) (xinq_mem (q := 2) (by decide +kernel)) [.null, .null, .null, .null, .null, .null, .null, .null, .null] tyX10 tyX10_ok (fun j hj => by match j, hj with | 0, _ => rfl | 1, _ => rfl | 2, _ => rfl | 3, _ => rfl | 4, _ => rfl | 5, _ => rfl | 6, _ => rfl | 7, _ => rfl | 8, _ => rfl | z + 9, h => exact absurd h (by omega)) (Nat.le_of_ble_eq_true rfl) (Nat.le_of_ble_eq_true rfl) (show decode cX11_init 16 = .ok (.new 7, 3) by decide +kernel) (fun q1 H hP hD hS => ?_)
  refine lv_dup hx hb (show decode cX11_init 19 = .ok (.dup, 1) by decide +kernel) rfl ?_
  refine n_call (rm := { frames := 2, cells := 21, slots := 667, locals := 60 }) hx hb hml hown hts hIn hP hD hS hA (nX10 l (gD G) (gcl G)) (index := 9) (by decide +kernel) (xinq_mem (q := 33) (by decide +kernel)) (xinq_mem (q := 2) (by decide +kernel)) (xinq_mem (q := 32) (by decide +kernel)) rfl rfl (by decide) (by decide) hl.1 (Nat.le_of_ble_eq_true rfl) ⟨Nat.le_of_ble_eq_true rfl, Nat.le_of_ble_eq_true rfl⟩ (show decode cX11_init 20 = .ok (.invokespecial 9, 3) by decide +kernel) (fun f1 H locs h0 hP8 hD8 hS => ?_)
  subst h0
  have hP := hP8
  have hD := hD8
  clear hP8 hD8
  refine n_put (v := .ref (f1 0)) hx hb hts hown hK hP hD hS (ci := 11) (N := 12) rfl 1 (by decide) (xinq_mem (q := 1108) (by decide +kernel)) (Or.inr ⟨rfl, hin, rfl⟩) (.object "DeadStick$World") (by decide +kernel) rfl rfl (Nat.le_of_ble_eq_true rfl) (show decode cX11_init 23 = .ok (.putfield 16, 3) by decide +kernel) (fun H locs hP hD hS => ?_)
  refine lv_aload_n hx hb (show decode cX11_init 26 = .ok (.aload_n 0, 1) by decide +kernel) rfl (lv_at hl 0 rfl) ?_
  refine lv_iconst (n := 0) (v := (0 : Int32)) hx hb (show decode cX11_init 27 = .ok (.iconst 0, 1) by decide +kernel) (by decide) ?_
  refine n_put (v := .int (0 : Int32)) hx hb hts hown hK hP hD hS (ci := 11) (N := 12) rfl 2 (by decide) (xinq_mem (q := 1109) (by decide +kernel)) (Or.inl rfl) .boolean (by decide +kernel) rfl rfl (Nat.le_of_ble_eq_true rfl) (show decode cX11_init 28 = .ok (.putfield 19, 3) by decide +kernel) (fun H locs hP hD hS => ?_)
  refine lv_aload_n hx hb (show decode cX11_init 31 = .ok (.aload_n 0, 1) by decide +kernel) rfl (lv_at hl 0 rfl) ?_
  refine n_new hx hb hts hown hK hP hD hS hA (ci := 3) (N := 3) rfl (xinq_mem (q := 190) (by decide +kernel)) (xinq_mem (q := 191) (by decide +kernel)) (xinq_mem (q := 8) (by decide +kernel)) [.null, .null, .int 0] tyX3 tyX3_ok (fun j hj => by match j, hj with | 0, _ => rfl | 1, _ => rfl | 2, _ => rfl | z + 3, h => exact absurd h (by omega)) (Nat.le_of_ble_eq_true rfl) (Nat.le_of_ble_eq_true rfl) (show decode cX11_init 32 = .ok (.new 23, 3) by decide +kernel) (fun q2 H hP hD hS => ?_)
  refine lv_dup hx hb (show decode cX11_init 35 = .ok (.dup, 1) by decide +kernel) rfl ?_
  refine n_call (rm := { frames := 2, cells := 3, slots := 69, locals := 60 }) hx hb hml hown hts hIn hP hD hS hA (nX3 l (gD G) (gcl G)) (index := 25) (by decide +kernel) (xinq_mem (q := 194) (by decide +kernel)) (xinq_mem (q := 8) (by decide +kernel)) (xinq_mem (q := 193) (by decide +kernel)) rfl rfl (by decide) (by decide) hl.1 (Nat.le_of_ble_eq_true rfl) ⟨Nat.le_of_ble_eq_true rfl, Nat.le_of_ble_eq_true rfl⟩ (show decode cX11_init 36 = .ok (.invokespecial 25, 3) by decide +kernel) (fun f2 H locs h0 hP8 hD8 hS => ?_)
  subst h0
  have hP := hP8
  have hD := hD8
  clear hP8 hD8
  refine n_put (v := .ref (f2 0)) hx hb hts hown hK hP hD hS (ci := 11) (N := 12) rfl 3 (by decide) (xinq_mem (q := 1110) (by decide +kernel)) (Or.inr ⟨rfl, hin, rfl⟩) (.object "DeadStick$Flight") (by decide +kernel) rfl rfl (Nat.le_of_ble_eq_true rfl) (show decode cX11_init 39 = .ok (.putfield 26, 3) by decide +kernel) (fun H locs hP hD hS => ?_)
  refine lv_aload_n hx hb (show decode cX11_init 42 = .ok (.aload_n 0, 1) by decide +kernel) rfl (lv_at hl 0 rfl) ?_
  refine n_new hx hb hts hown hK hP hD hS hA (ci := 2) (N := 5) rfl (xinq_mem (q := 211) (by decide +kernel)) (xinq_mem (q := 60) (by decide +kernel)) (xinq_mem (q := 4) (by decide +kernel)) [.int 0, .int 0, .int 0, .int 0, .int 0] tyX2 tyX2_ok (fun j hj => by match j, hj with | 0, _ => rfl | 1, _ => rfl | 2, _ => rfl | 3, _ => rfl | 4, _ => rfl | z + 5, h => exact absurd h (by omega)) (Nat.le_of_ble_eq_true rfl) (Nat.le_of_ble_eq_true rfl) (show decode cX11_init 43 = .ok (.new 30, 3) by decide +kernel) (fun q3 H hP hD hS => ?_)
  refine lv_dup hx hb (show decode cX11_init 46 = .ok (.dup, 1) by decide +kernel) rfl ?_
  refine n_call (rm := { frames := 1, cells := 0, slots := 0, locals := 20 }) hx hb hml hown hts hIn hP hD hS hA (nX2 l (gD G) (gcl G)) (index := 32) (by decide +kernel) (xinq_mem (q := 63) (by decide +kernel)) (xinq_mem (q := 4) (by decide +kernel)) (xinq_mem (q := 62) (by decide +kernel)) rfl rfl (by decide) (by decide) hl.1 (Nat.le_of_ble_eq_true rfl) ⟨Nat.le_of_ble_eq_true rfl, Nat.le_of_ble_eq_true rfl⟩ (show decode cX11_init 47 = .ok (.invokespecial 32, 3) by decide +kernel) (fun f3 H locs h0 hP8 hD8 hS => ?_)
  subst h0
  have hP := hP8
  have hD := hD8
  clear hP8 hD8
  refine n_put (v := .ref (f3 0)) hx hb hts hown hK hP hD hS (ci := 11) (N := 12) rfl 4 (by decide) (xinq_mem (q := 1111) (by decide +kernel)) (Or.inr ⟨rfl, hin, rfl⟩) (.object "DeadStick$Craft") (by decide +kernel) rfl rfl (Nat.le_of_ble_eq_true rfl) (show decode cX11_init 50 = .ok (.putfield 33, 3) by decide +kernel) (fun H locs hP hD hS => ?_)
  refine lv_aload_n hx hb (show decode cX11_init 53 = .ok (.aload_n 0, 1) by decide +kernel) rfl (lv_at hl 0 rfl) ?_
  refine n_new hx hb hts hown hK hP hD hS hA (ci := 6) (N := 4) rfl (xinq_mem (q := 213) (by decide +kernel)) (xinq_mem (q := 214) (by decide +kernel)) (xinq_mem (q := 9) (by decide +kernel)) [.null, .null, .null, .null] tyX6 tyX6_ok (fun j hj => by match j, hj with | 0, _ => rfl | 1, _ => rfl | 2, _ => rfl | 3, _ => rfl | z + 4, h => exact absurd h (by omega)) (Nat.le_of_ble_eq_true rfl) (Nat.le_of_ble_eq_true rfl) (show decode cX11_init 54 = .ok (.new 37, 3) by decide +kernel) (fun q4 H hP hD hS => ?_)
  refine lv_dup hx hb (show decode cX11_init 57 = .ok (.dup, 1) by decide +kernel) rfl ?_
  refine n_call (rm := { frames := 1, cells := 4, slots := 2404, locals := 20 }) hx hb hml hown hts hIn hP hD hS hA (nX6 l (gD G) (gcl G)) (index := 39) (by decide +kernel) (xinq_mem (q := 217) (by decide +kernel)) (xinq_mem (q := 9) (by decide +kernel)) (xinq_mem (q := 216) (by decide +kernel)) rfl rfl (by decide) (by decide) hl.1 (Nat.le_of_ble_eq_true rfl) ⟨Nat.le_of_ble_eq_true rfl, Nat.le_of_ble_eq_true rfl⟩ (show decode cX11_init 58 = .ok (.invokespecial 39, 3) by decide +kernel) (fun f4 H locs h0 hP8 hD8 hS => ?_)
  subst h0
  have hP := hP8
  have hD := hD8
  clear hP8 hD8
  refine n_put (v := .ref (f4 0)) hx hb hts hown hK hP hD hS (ci := 11) (N := 12) rfl 5 (by decide) (xinq_mem (q := 1112) (by decide +kernel)) (Or.inr ⟨rfl, hin, rfl⟩) (.object "DeadStick$Reach") (by decide +kernel) rfl rfl (Nat.le_of_ble_eq_true rfl) (show decode cX11_init 61 = .ok (.putfield 40, 3) by decide +kernel) (fun H locs hP hD hS => ?_)
  refine lv_aload_n hx hb (show decode cX11_init 64 = .ok (.aload_n 0, 1) by decide +kernel) rfl (lv_at hl 0 rfl) ?_
  refine n_new hx hb hts hown hK hP hD hS hA (ci := 9) (N := 11) rfl (xinq_mem (q := 232) (by decide +kernel)) (xinq_mem (q := 233) (by decide +kernel)) (xinq_mem (q := 10) (by decide +kernel)) [.null, .int 0, .null, .null, .null, .null, .int 0, .int 0, .int 0, .int 0, .int 0] tyX9 tyX9_ok (fun j hj => by match j, hj with | 0, _ => rfl | 1, _ => rfl | 2, _ => rfl | 3, _ => rfl | 4, _ => rfl | 5, _ => rfl | 6, _ => rfl | 7, _ => rfl | 8, _ => rfl | 9, _ => rfl | 10, _ => rfl | z + 11, h => exact absurd h (by omega)) (Nat.le_of_ble_eq_true rfl) (Nat.le_of_ble_eq_true rfl) (show decode cX11_init 65 = .ok (.new 44, 3) by decide +kernel) (fun q5 H hP hD hS => ?_)
  refine lv_dup hx hb (show decode cX11_init 68 = .ok (.dup, 1) by decide +kernel) rfl ?_
  refine n_call (rm := { frames := 2, cells := 8, slots := 1226, locals := 60 }) hx hb hml hown hts hIn hP hD hS hA (nX9 l (gD G) (gcl G)) (index := 46) (by decide +kernel) (xinq_mem (q := 236) (by decide +kernel)) (xinq_mem (q := 10) (by decide +kernel)) (xinq_mem (q := 235) (by decide +kernel)) rfl rfl (by decide) (by decide) hl.1 (Nat.le_of_ble_eq_true rfl) ⟨Nat.le_of_ble_eq_true rfl, Nat.le_of_ble_eq_true rfl⟩ (show decode cX11_init 69 = .ok (.invokespecial 46, 3) by decide +kernel) (fun f5 H locs h0 hP8 hD8 hS => ?_)
  subst h0
  have hP := hP8
  have hD := hD8
  clear hP8 hD8
  refine n_put (v := .ref (f5 0)) hx hb hts hown hK hP hD hS (ci := 11) (N := 12) rfl 6 (by decide) (xinq_mem (q := 1113) (by decide +kernel)) (Or.inr ⟨rfl, hin, rfl⟩) (.object "DeadStick$Text") (by decide +kernel) rfl rfl (Nat.le_of_ble_eq_true rfl) (show decode cX11_init 72 = .ok (.putfield 47, 3) by decide +kernel) (fun H locs hP hD hS => ?_)
  refine lv_aload_n hx hb (show decode cX11_init 75 = .ok (.aload_n 0, 1) by decide +kernel) rfl (lv_at hl 0 rfl) ?_
  refine n_new hx hb hts hown hK hP hD hS hA (ci := 1) (N := 1) rfl (xinq_mem (q := 1037) (by decide +kernel)) (xinq_mem (q := 1038) (by decide +kernel)) (xinq_mem (q := 11) (by decide +kernel)) [.null] tyX1 tyX1_ok (fun j hj => by match j, hj with | 0, _ => rfl | z + 1, h => exact absurd h (by omega)) (Nat.le_of_ble_eq_true rfl) (Nat.le_of_ble_eq_true rfl) (show decode cX11_init 76 = .ok (.new 51, 3) by decide +kernel) (fun q6 H hP hD hS => ?_)
  refine lv_dup hx hb (show decode cX11_init 79 = .ok (.dup, 1) by decide +kernel) rfl ?_
  refine n_call (rm := { frames := 1, cells := 1, slots := 128, locals := 20 }) hx hb hml hown hts hIn hP hD hS hA (nX1 l (gD G) (gcl G)) (index := 53) (by decide +kernel) (xinq_mem (q := 1041) (by decide +kernel)) (xinq_mem (q := 11) (by decide +kernel)) (xinq_mem (q := 1040) (by decide +kernel)) rfl rfl (by decide) (by decide) hl.1 (Nat.le_of_ble_eq_true rfl) ⟨Nat.le_of_ble_eq_true rfl, Nat.le_of_ble_eq_true rfl⟩ (show decode cX11_init 80 = .ok (.invokespecial 53, 3) by decide +kernel) (fun f6 H locs h0 hP8 hD8 hS => ?_)
  subst h0
  have hP := hP8
  have hD := hD8
  clear hP8 hD8
  refine n_put (v := .ref (f6 0)) hx hb hts hown hK hP hD hS (ci := 11) (N := 12) rfl 7 (by decide) (xinq_mem (q := 1114) (by decide +kernel)) (Or.inr ⟨rfl, hin, rfl⟩) (.object "DeadStick$Book") (by decide +kernel) rfl rfl (Nat.le_of_ble_eq_true rfl) (show decode cX11_init 83 = .ok (.putfield 54, 3) by decide +kernel) (fun H locs hP hD hS => ?_)
  refine lv_aload_n hx hb (show decode cX11_init 86 = .ok (.aload_n 0, 1) by decide +kernel) rfl (lv_at hl 0 rfl) ?_
  refine n_new hx hb hts hown hK hP hD hS hA (ci := 0) (N := 6) rfl (xinq_mem (q := 1047) (by decide +kernel)) (xinq_mem (q := 1048) (by decide +kernel)) (xinq_mem (q := 12) (by decide +kernel)) [.null, .int 0, .int 0, .int 0, .int 0, .int 0] tyX0 tyX0_ok (fun j hj => by match j, hj with | 0, _ => rfl | 1, _ => rfl | 2, _ => rfl | 3, _ => rfl | 4, _ => rfl | 5, _ => rfl | z + 6, h => exact absurd h (by omega)) (Nat.le_of_ble_eq_true rfl) (Nat.le_of_ble_eq_true rfl) (show decode cX11_init 87 = .ok (.new 58, 3) by decide +kernel) (fun q7 H hP hD hS => ?_)
  refine lv_dup hx hb (show decode cX11_init 90 = .ok (.dup, 1) by decide +kernel) rfl ?_
  refine n_call (rm := { frames := 1, cells := 1, slots := 30, locals := 20 }) hx hb hml hown hts hIn hP hD hS hA (nX0 l (gD G) (gcl G)) (index := 60) (by decide +kernel) (xinq_mem (q := 1051) (by decide +kernel)) (xinq_mem (q := 12) (by decide +kernel)) (xinq_mem (q := 1050) (by decide +kernel)) rfl rfl (by decide) (by decide) hl.1 (Nat.le_of_ble_eq_true rfl) ⟨Nat.le_of_ble_eq_true rfl, Nat.le_of_ble_eq_true rfl⟩ (show decode cX11_init 91 = .ok (.invokespecial 60, 3) by decide +kernel) (fun f7 H locs h0 hP8 hD8 hS => ?_)
  subst h0
  have hP := hP8
  have hD := hD8
  clear hP8 hD8
  refine n_put (v := .ref (f7 0)) hx hb hts hown hK hP hD hS (ci := 11) (N := 12) rfl 8 (by decide) (xinq_mem (q := 1115) (by decide +kernel)) (Or.inr ⟨rfl, hin, rfl⟩) (.object "DeadStick$Asks") (by decide +kernel) rfl rfl (Nat.le_of_ble_eq_true rfl) (show decode cX11_init 94 = .ok (.putfield 61, 3) by decide +kernel) (fun H locs hP hD hS => ?_)
  refine lv_aload_n hx hb (show decode cX11_init 97 = .ok (.aload_n 0, 1) by decide +kernel) rfl (lv_at hl 0 rfl) ?_
  refine n_new hx hb hts hown hK hP hD hS hA (ci := 7) (N := 4) rfl (xinq_mem (q := 1074) (by decide +kernel)) (xinq_mem (q := 103) (by decide +kernel)) (xinq_mem (q := 5) (by decide +kernel)) [.int 0, .int 0, .null, .int 0] tyX7 tyX7_ok (fun j hj => by match j, hj with | 0, _ => rfl | 1, _ => rfl | 2, _ => rfl | 3, _ => rfl | z + 4, h => exact absurd h (by omega)) (Nat.le_of_ble_eq_true rfl) (Nat.le_of_ble_eq_true rfl) (show decode cX11_init 98 = .ok (.new 65, 3) by decide +kernel) (fun q8 H hP hD hS => ?_)
  refine lv_dup hx hb (show decode cX11_init 101 = .ok (.dup, 1) by decide +kernel) rfl ?_
  refine lv_bipush (n := 30) (v := (30 : Int32)) hx hb (show decode cX11_init 102 = .ok (.bipush 30, 2) by decide +kernel) (by decide) ?_
  refine lv_iconst (n := 2) (v := (2 : Int32)) hx hb (show decode cX11_init 104 = .ok (.iconst 2, 1) by decide +kernel) (by decide) ?_
  refine n_calp (rm := { frames := 1, cells := 1, slots := 60, locals := 20 }) hx hb hml hown hts hIn hP hD hS hA (nX7 l (gD G) (gcl G) (30 : Int32) (2 : Int32) 60 (by decide) (by decide) (by decide) (by decide) (by decide)) (index := 67) (xinq_mem (q := 1075) (by decide +kernel)) (xinq_mem (q := 106) (by decide +kernel)) (xinq_mem (q := 5) (by decide +kernel)) (xinq_mem (q := 105) (by decide +kernel)) rfl rfl rfl (by decide +kernel) (by decide) hl.1 (Nat.le_of_ble_eq_true rfl) ⟨Nat.le_of_ble_eq_true rfl, Nat.le_of_ble_eq_true rfl⟩ (show decode cX11_init 105 = .ok (.invokespecial 67, 3) by decide +kernel) (fun f8 H locs h0 hP8 hD8 hS => ?_)
  subst h0
  have hP := hP8
  have hD := hD8
  clear hP8 hD8
  refine n_put (v := .ref (f8 0)) hx hb hts hown hK hP hD hS (ci := 11) (N := 12) rfl 9 (by decide) (xinq_mem (q := 1116) (by decide +kernel)) (Or.inr ⟨rfl, hin, rfl⟩) (.object "DeadStick$Rows") (by decide +kernel) rfl rfl (Nat.le_of_ble_eq_true rfl) (show decode cX11_init 108 = .ok (.putfield 70, 3) by decide +kernel) (fun H locs hP hD hS => ?_)
  refine lv_aload_n hx hb (show decode cX11_init 111 = .ok (.aload_n 0, 1) by decide +kernel) rfl (lv_at hl 0 rfl) ?_
  refine n_new hx hb hts hown hK hP hD hS hA (ci := 7) (N := 4) rfl (xinq_mem (q := 1074) (by decide +kernel)) (xinq_mem (q := 103) (by decide +kernel)) (xinq_mem (q := 5) (by decide +kernel)) [.int 0, .int 0, .null, .int 0] tyX7 tyX7_ok (fun j hj => by match j, hj with | 0, _ => rfl | 1, _ => rfl | 2, _ => rfl | 3, _ => rfl | z + 4, h => exact absurd h (by omega)) (Nat.le_of_ble_eq_true rfl) (Nat.le_of_ble_eq_true rfl) (show decode cX11_init 112 = .ok (.new 65, 3) by decide +kernel) (fun q9 H hP hD hS => ?_)
  refine lv_dup hx hb (show decode cX11_init 115 = .ok (.dup, 1) by decide +kernel) rfl ?_
  refine lv_iconst (n := 4) (v := (4 : Int32)) hx hb (show decode cX11_init 116 = .ok (.iconst 4, 1) by decide +kernel) (by decide) ?_
  refine lv_iconst (n := 3) (v := (3 : Int32)) hx hb (show decode cX11_init 117 = .ok (.iconst 3, 1) by decide +kernel) (by decide) ?_
  refine n_calp (rm := { frames := 1, cells := 1, slots := 12, locals := 20 }) hx hb hml hown hts hIn hP hD hS hA (nX7 l (gD G) (gcl G) (4 : Int32) (3 : Int32) 12 (by decide) (by decide) (by decide) (by decide) (by decide)) (index := 67) (xinq_mem (q := 1075) (by decide +kernel)) (xinq_mem (q := 106) (by decide +kernel)) (xinq_mem (q := 5) (by decide +kernel)) (xinq_mem (q := 105) (by decide +kernel)) rfl rfl rfl (by decide +kernel) (by decide) hl.1 (Nat.le_of_ble_eq_true rfl) ⟨Nat.le_of_ble_eq_true rfl, Nat.le_of_ble_eq_true rfl⟩ (show decode cX11_init 118 = .ok (.invokespecial 67, 3) by decide +kernel) (fun f9 H locs h0 hP8 hD8 hS => ?_)
  subst h0
  have hP := hP8
  have hD := hD8
  clear hP8 hD8
  refine n_put (v := .ref (f9 0)) hx hb hts hown hK hP hD hS (ci := 11) (N := 12) rfl 10 (by decide) (xinq_mem (q := 1117) (by decide +kernel)) (Or.inr ⟨rfl, hin, rfl⟩) (.object "DeadStick$Rows") (by decide +kernel) rfl rfl (Nat.le_of_ble_eq_true rfl) (show decode cX11_init 121 = .ok (.putfield 74, 3) by decide +kernel) (fun H locs hP hD hS => ?_)
  obtain ⟨P, hPe⟩ : ∃ P : va_W, P = ((((((((([] ++ BX10 (gcl G) f0) ++ BX10 (gcl G) f1) ++ BX3 (gcl G) f2) ++ BX2 (gcl G) f3) ++ BX6 (gcl G) f4) ++ BX9 (gcl G) f5) ++ BX1 (gcl G) f6) ++ BX0 (gcl G) f7) ++ BX7 (gcl G) (30 : Int32) (2 : Int32) 60 f8) := ⟨_, rfl⟩
  obtain ⟨S, hSe⟩ : ∃ S : va_W, S = BX7 (gcl G) (4 : Int32) (3 : Int32) 12 f9 := ⟨_, rfl⟩
  have hP : va_P (gD G) clX ((a, .inr (11, ([.ref (f0 0), .ref (f1 0), .int (0 : Int32), .ref (f2 0), .ref (f3 0), .ref (f4 0), .ref (f5 0), .ref (f6 0), .ref (f7 0), .ref (f8 0), .ref (f9 0), .null] : List Value))) :: (P ++ S)) H := by rw [hPe, hSe]; exact hP
  have hD : va_D A ((a, .inr (11, ([.ref (f0 0), .ref (f1 0), .int (0 : Int32), .ref (f2 0), .ref (f3 0), .ref (f4 0), .ref (f5 0), .ref (f6 0), .ref (f7 0), .ref (f8 0), .ref (f9 0), .null] : List Value))) :: (P ++ S)) := by rw [hPe, hSe]; exact hD
  refine lv_aload_n hx hb (show decode cX11_init 124 = .ok (.aload_n 0, 1) by decide +kernel) rfl (lv_at hl 0 rfl) ?_
  refine lv_iconst (n := 4) (v := (4 : Int32)) hx hb (show decode cX11_init 125 = .ok (.iconst 4, 1) by decide +kernel) (by decide) ?_
  refine va_newq (C := "DeadStick$Sheet") (N' := 4) hx hb hown (hts _ (xinq_mem (q := 1076) (by decide +kernel))) hAO hK hP hD hS hA (by decide) (by decide) (by decide) (Nat.le_of_ble_eq_true rfl) (Nat.le_of_ble_eq_true rfl) (show decode cX11_init 126 = .ok (.anewarray 77, 3) by decide +kernel) (fun q cA H hK hP hD hS => ?_)
  have hP : va_P (gD G) clX ((a, .inr (11, ([.ref (f0 0), .ref (f1 0), .int (0 : Int32), .ref (f2 0), .ref (f3 0), .ref (f4 0), .ref (f5 0), .ref (f6 0), .ref (f7 0), .ref (f8 0), .ref (f9 0), .null] : List Value))) :: ((P ++ S) ++ [(q, .inl (cA, (4, .inr (.inr (.inr (.inr (fun _ => none)))))))])) H := hP
  have hD : va_D A ((a, .inr (11, ([.ref (f0 0), .ref (f1 0), .int (0 : Int32), .ref (f2 0), .ref (f3 0), .ref (f4 0), .ref (f5 0), .ref (f6 0), .ref (f7 0), .ref (f8 0), .ref (f9 0), .null] : List Value))) :: ((P ++ S) ++ [(q, .inl (cA, (4, .inr (.inr (.inr (.inr (fun _ => none)))))))])) := hD
  refine lv_dup hx hb (show decode cX11_init 129 = .ok (.dup, 1) by decide +kernel) rfl ?_
  refine lv_iconst (n := 0) (v := (0 : Int32)) hx hb (show decode cX11_init 130 = .ok (.iconst 0, 1) by decide +kernel) (by decide) ?_
  refine n_new hx hb hts hown hK hP hD hS hA (ci := 8) (N := 3) rfl (xinq_mem (q := 1076) (by decide +kernel)) (xinq_mem (q := 1078) (by decide +kernel)) (xinq_mem (q := 13) (by decide +kernel)) [.int 0, .int 0, .null] tyX8 tyX8_ok (fun j hj => by match j, hj with | 0, _ => rfl | 1, _ => rfl | 2, _ => rfl | z + 3, h => exact absurd h (by omega)) (Nat.le_of_ble_eq_true rfl) (Nat.le_of_ble_eq_true rfl) (show decode cX11_init 131 = .ok (.new 77, 3) by decide +kernel) (fun t0 H hP hD hS => ?_)
  refine lv_dup hx hb (show decode cX11_init 134 = .ok (.dup, 1) by decide +kernel) rfl ?_
  refine n_call (rm := { frames := 1, cells := 1, slots := 64, locals := 20 }) hx hb hml hown hts hIn hP hD hS hA (nX8 l (gD G) (gcl G)) (index := 79) (by decide +kernel) (xinq_mem (q := 1081) (by decide +kernel)) (xinq_mem (q := 13) (by decide +kernel)) (xinq_mem (q := 1080) (by decide +kernel)) rfl rfl (by decide) (by decide) hl.1 (Nat.le_of_ble_eq_true rfl) ⟨Nat.le_of_ble_eq_true rfl, Nat.le_of_ble_eq_true rfl⟩ (show decode cX11_init 135 = .ok (.invokespecial 79, 3) by decide +kernel) (fun g0 H locs h0 hP8 hD8 hS => ?_)
  subst h0
  have hP := hP8
  have hD := hD8
  clear hP8 hD8
  refine n_aast (N := 4) (f := (fun _ => none)) (W0 := P ++ S) (Y := ([] : va_W)) (r := (RX8, TX8, 3)) hx hb hK (by simp only [List.append_assoc, List.append_nil, List.nil_append]) hP hD hS 3 rfl rfl (by unfold vp_in; decide) (show decode cX11_init 138 = .ok (.aastore, 1) by decide +kernel) (fun H locs hP hD hS => ?_)
  have hP : va_P (gD G) clX ((a, .inr (11, ([.ref (f0 0), .ref (f1 0), .int (0 : Int32), .ref (f2 0), .ref (f3 0), .ref (f4 0), .ref (f5 0), .ref (f6 0), .ref (f7 0), .ref (f8 0), .ref (f9 0), .null] : List Value))) :: (((P ++ S) ++ [(q, .inl (cA, (4, .inr (.inr (.inr (.inr (va_up (fun _ => none) (0 : Int32).toNatClampNeg (some (g0 0)))))))))]) ++ ([] : va_W) ++ BX8 (gcl G) g0)) H := hP
  have hD : va_D A ((a, .inr (11, ([.ref (f0 0), .ref (f1 0), .int (0 : Int32), .ref (f2 0), .ref (f3 0), .ref (f4 0), .ref (f5 0), .ref (f6 0), .ref (f7 0), .ref (f8 0), .ref (f9 0), .null] : List Value))) :: (((P ++ S) ++ [(q, .inl (cA, (4, .inr (.inr (.inr (.inr (va_up (fun _ => none) (0 : Int32).toNatClampNeg (some (g0 0)))))))))]) ++ ([] : va_W) ++ BX8 (gcl G) g0)) := hD
  refine lv_dup hx hb (show decode cX11_init 139 = .ok (.dup, 1) by decide +kernel) rfl ?_
  refine lv_iconst (n := 1) (v := (1 : Int32)) hx hb (show decode cX11_init 140 = .ok (.iconst 1, 1) by decide +kernel) (by decide) ?_
  refine n_new hx hb hts hown hK hP hD hS hA (ci := 8) (N := 3) rfl (xinq_mem (q := 1076) (by decide +kernel)) (xinq_mem (q := 1078) (by decide +kernel)) (xinq_mem (q := 13) (by decide +kernel)) [.int 0, .int 0, .null] tyX8 tyX8_ok (fun j hj => by match j, hj with | 0, _ => rfl | 1, _ => rfl | 2, _ => rfl | z + 3, h => exact absurd h (by omega)) (Nat.le_of_ble_eq_true rfl) (Nat.le_of_ble_eq_true rfl) (show decode cX11_init 141 = .ok (.new 77, 3) by decide +kernel) (fun t1 H hP hD hS => ?_)
  refine lv_dup hx hb (show decode cX11_init 144 = .ok (.dup, 1) by decide +kernel) rfl ?_
  refine n_call (rm := { frames := 1, cells := 1, slots := 64, locals := 20 }) hx hb hml hown hts hIn hP hD hS hA (nX8 l (gD G) (gcl G)) (index := 79) (by decide +kernel) (xinq_mem (q := 1081) (by decide +kernel)) (xinq_mem (q := 13) (by decide +kernel)) (xinq_mem (q := 1080) (by decide +kernel)) rfl rfl (by decide) (by decide) hl.1 (Nat.le_of_ble_eq_true rfl) ⟨Nat.le_of_ble_eq_true rfl, Nat.le_of_ble_eq_true rfl⟩ (show decode cX11_init 145 = .ok (.invokespecial 79, 3) by decide +kernel) (fun g1 H locs h0 hP8 hD8 hS => ?_)
  subst h0
  have hP := hP8
  have hD := hD8
  clear hP8 hD8
  refine n_aast (N := 4) (f := (va_up (fun _ => none) (0 : Int32).toNatClampNeg (some (g0 0)))) (W0 := P ++ S) (Y := (([] : va_W) ++ BX8 (gcl G) g0)) (r := (RX8, TX8, 3)) hx hb hK (by simp only [List.append_assoc, List.append_nil, List.nil_append]) hP hD hS 3 rfl rfl (by unfold vp_in; decide) (show decode cX11_init 148 = .ok (.aastore, 1) by decide +kernel) (fun H locs hP hD hS => ?_)
  have hP : va_P (gD G) clX ((a, .inr (11, ([.ref (f0 0), .ref (f1 0), .int (0 : Int32), .ref (f2 0), .ref (f3 0), .ref (f4 0), .ref (f5 0), .ref (f6 0), .ref (f7 0), .ref (f8 0), .ref (f9 0), .null] : List Value))) :: (((P ++ S) ++ [(q, .inl (cA, (4, .inr (.inr (.inr (.inr (va_up (va_up (fun _ => none) (0 : Int32).toNatClampNeg (some (g0 0))) (1 : Int32).toNatClampNeg (some (g1 0)))))))))]) ++ (([] : va_W) ++ BX8 (gcl G) g0) ++ BX8 (gcl G) g1)) H := hP
  have hD : va_D A ((a, .inr (11, ([.ref (f0 0), .ref (f1 0), .int (0 : Int32), .ref (f2 0), .ref (f3 0), .ref (f4 0), .ref (f5 0), .ref (f6 0), .ref (f7 0), .ref (f8 0), .ref (f9 0), .null] : List Value))) :: (((P ++ S) ++ [(q, .inl (cA, (4, .inr (.inr (.inr (.inr (va_up (va_up (fun _ => none) (0 : Int32).toNatClampNeg (some (g0 0))) (1 : Int32).toNatClampNeg (some (g1 0)))))))))]) ++ (([] : va_W) ++ BX8 (gcl G) g0) ++ BX8 (gcl G) g1)) := hD
  refine lv_dup hx hb (show decode cX11_init 149 = .ok (.dup, 1) by decide +kernel) rfl ?_
  refine lv_iconst (n := 2) (v := (2 : Int32)) hx hb (show decode cX11_init 150 = .ok (.iconst 2, 1) by decide +kernel) (by decide) ?_
  refine n_new hx hb hts hown hK hP hD hS hA (ci := 8) (N := 3) rfl (xinq_mem (q := 1076) (by decide +kernel)) (xinq_mem (q := 1078) (by decide +kernel)) (xinq_mem (q := 13) (by decide +kernel)) [.int 0, .int 0, .null] tyX8 tyX8_ok (fun j hj => by match j, hj with | 0, _ => rfl | 1, _ => rfl | 2, _ => rfl | z + 3, h => exact absurd h (by omega)) (Nat.le_of_ble_eq_true rfl) (Nat.le_of_ble_eq_true rfl) (show decode cX11_init 151 = .ok (.new 77, 3) by decide +kernel) (fun t2 H hP hD hS => ?_)
  refine lv_dup hx hb (show decode cX11_init 154 = .ok (.dup, 1) by decide +kernel) rfl ?_
  refine n_call (rm := { frames := 1, cells := 1, slots := 64, locals := 20 }) hx hb hml hown hts hIn hP hD hS hA (nX8 l (gD G) (gcl G)) (index := 79) (by decide +kernel) (xinq_mem (q := 1081) (by decide +kernel)) (xinq_mem (q := 13) (by decide +kernel)) (xinq_mem (q := 1080) (by decide +kernel)) rfl rfl (by decide) (by decide) hl.1 (Nat.le_of_ble_eq_true rfl) ⟨Nat.le_of_ble_eq_true rfl, Nat.le_of_ble_eq_true rfl⟩ (show decode cX11_init 155 = .ok (.invokespecial 79, 3) by decide +kernel) (fun g2 H locs h0 hP8 hD8 hS => ?_)
  subst h0
  have hP := hP8
  have hD := hD8
  clear hP8 hD8
  refine n_aast (N := 4) (f := (va_up (va_up (fun _ => none) (0 : Int32).toNatClampNeg (some (g0 0))) (1 : Int32).toNatClampNeg (some (g1 0)))) (W0 := P ++ S) (Y := ((([] : va_W) ++ BX8 (gcl G) g0) ++ BX8 (gcl G) g1)) (r := (RX8, TX8, 3)) hx hb hK (by simp only [List.append_assoc, List.append_nil, List.nil_append]) hP hD hS 3 rfl rfl (by unfold vp_in; decide) (show decode cX11_init 158 = .ok (.aastore, 1) by decide +kernel) (fun H locs hP hD hS => ?_)
  have hP : va_P (gD G) clX ((a, .inr (11, ([.ref (f0 0), .ref (f1 0), .int (0 : Int32), .ref (f2 0), .ref (f3 0), .ref (f4 0), .ref (f5 0), .ref (f6 0), .ref (f7 0), .ref (f8 0), .ref (f9 0), .null] : List Value))) :: (((P ++ S) ++ [(q, .inl (cA, (4, .inr (.inr (.inr (.inr (va_up (va_up (va_up (fun _ => none) (0 : Int32).toNatClampNeg (some (g0 0))) (1 : Int32).toNatClampNeg (some (g1 0))) (2 : Int32).toNatClampNeg (some (g2 0)))))))))]) ++ ((([] : va_W) ++ BX8 (gcl G) g0) ++ BX8 (gcl G) g1) ++ BX8 (gcl G) g2)) H := hP
  have hD : va_D A ((a, .inr (11, ([.ref (f0 0), .ref (f1 0), .int (0 : Int32), .ref (f2 0), .ref (f3 0), .ref (f4 0), .ref (f5 0), .ref (f6 0), .ref (f7 0), .ref (f8 0), .ref (f9 0), .null] : List Value))) :: (((P ++ S) ++ [(q, .inl (cA, (4, .inr (.inr (.inr (.inr (va_up (va_up (va_up (fun _ => none) (0 : Int32).toNatClampNeg (some (g0 0))) (1 : Int32).toNatClampNeg (some (g1 0))) (2 : Int32).toNatClampNeg (some (g2 0)))))))))]) ++ ((([] : va_W) ++ BX8 (gcl G) g0) ++ BX8 (gcl G) g1) ++ BX8 (gcl G) g2)) := hD
  refine lv_dup hx hb (show decode cX11_init 159 = .ok (.dup, 1) by decide +kernel) rfl ?_
  refine lv_iconst (n := 3) (v := (3 : Int32)) hx hb (show decode cX11_init 160 = .ok (.iconst 3, 1) by decide +kernel) (by decide) ?_
  refine n_new hx hb hts hown hK hP hD hS hA (ci := 8) (N := 3) rfl (xinq_mem (q := 1076) (by decide +kernel)) (xinq_mem (q := 1078) (by decide +kernel)) (xinq_mem (q := 13) (by decide +kernel)) [.int 0, .int 0, .null] tyX8 tyX8_ok (fun j hj => by match j, hj with | 0, _ => rfl | 1, _ => rfl | 2, _ => rfl | z + 3, h => exact absurd h (by omega)) (Nat.le_of_ble_eq_true rfl) (Nat.le_of_ble_eq_true rfl) (show decode cX11_init 161 = .ok (.new 77, 3) by decide +kernel) (fun t3 H hP hD hS => ?_)
  refine lv_dup hx hb (show decode cX11_init 164 = .ok (.dup, 1) by decide +kernel) rfl ?_
  refine n_call (rm := { frames := 1, cells := 1, slots := 64, locals := 20 }) hx hb hml hown hts hIn hP hD hS hA (nX8 l (gD G) (gcl G)) (index := 79) (by decide +kernel) (xinq_mem (q := 1081) (by decide +kernel)) (xinq_mem (q := 13) (by decide +kernel)) (xinq_mem (q := 1080) (by decide +kernel)) rfl rfl (by decide) (by decide) hl.1 (Nat.le_of_ble_eq_true rfl) ⟨Nat.le_of_ble_eq_true rfl, Nat.le_of_ble_eq_true rfl⟩ (show decode cX11_init 165 = .ok (.invokespecial 79, 3) by decide +kernel) (fun g3 H locs h0 hP8 hD8 hS => ?_)
  subst h0
  have hP := hP8
  have hD := hD8
  clear hP8 hD8
  refine n_aast (N := 4) (f := (va_up (va_up (va_up (fun _ => none) (0 : Int32).toNatClampNeg (some (g0 0))) (1 : Int32).toNatClampNeg (some (g1 0))) (2 : Int32).toNatClampNeg (some (g2 0)))) (W0 := P ++ S) (Y := (((([] : va_W) ++ BX8 (gcl G) g0) ++ BX8 (gcl G) g1) ++ BX8 (gcl G) g2)) (r := (RX8, TX8, 3)) hx hb hK (by simp only [List.append_assoc, List.append_nil, List.nil_append]) hP hD hS 3 rfl rfl (by unfold vp_in; decide) (show decode cX11_init 168 = .ok (.aastore, 1) by decide +kernel) (fun H locs hP hD hS => ?_)
  have hP : va_P (gD G) clX ((a, .inr (11, ([.ref (f0 0), .ref (f1 0), .int (0 : Int32), .ref (f2 0), .ref (f3 0), .ref (f4 0), .ref (f5 0), .ref (f6 0), .ref (f7 0), .ref (f8 0), .ref (f9 0), .null] : List Value))) :: (((P ++ S) ++ [(q, .inl (cA, (4, .inr (.inr (.inr (.inr (va_up (va_up (va_up (va_up (fun _ => none) (0 : Int32).toNatClampNeg (some (g0 0))) (1 : Int32).toNatClampNeg (some (g1 0))) (2 : Int32).toNatClampNeg (some (g2 0))) (3 : Int32).toNatClampNeg (some (g3 0)))))))))]) ++ (((([] : va_W) ++ BX8 (gcl G) g0) ++ BX8 (gcl G) g1) ++ BX8 (gcl G) g2) ++ BX8 (gcl G) g3)) H := hP
  have hD : va_D A ((a, .inr (11, ([.ref (f0 0), .ref (f1 0), .int (0 : Int32), .ref (f2 0), .ref (f3 0), .ref (f4 0), .ref (f5 0), .ref (f6 0), .ref (f7 0), .ref (f8 0), .ref (f9 0), .null] : List Value))) :: (((P ++ S) ++ [(q, .inl (cA, (4, .inr (.inr (.inr (.inr (va_up (va_up (va_up (va_up (fun _ => none) (0 : Int32).toNatClampNeg (some (g0 0))) (1 : Int32).toNatClampNeg (some (g1 0))) (2 : Int32).toNatClampNeg (some (g2 0))) (3 : Int32).toNatClampNeg (some (g3 0)))))))))]) ++ (((([] : va_W) ++ BX8 (gcl G) g0) ++ BX8 (gcl G) g1) ++ BX8 (gcl G) g2) ++ BX8 (gcl G) g3)) := hD
  refine n_put (v := .ref q) hx hb hts hown hK hP hD hS (ci := 11) (N := 12) rfl 11 (by decide) (xinq_mem (q := 1118) (by decide +kernel)) (Or.inr ⟨rfl, hin, rfl⟩) (.array (.object "DeadStick$Sheet")) (by decide +kernel) rfl rfl (Nat.le_of_ble_eq_true rfl) (show decode cX11_init 169 = .ok (.putfield 80, 3) by decide +kernel) (fun H locs hP hD hS => ?_)
  obtain ⟨Z, hZe⟩ : ∃ Z : va_W, Z = (q, .inl (cA, (4, .inr (.inr (.inr (.inr (va_up (va_up (va_up (va_up (fun _ => none) (0 : Int32).toNatClampNeg (some (g0 0))) (1 : Int32).toNatClampNeg (some (g1 0))) (2 : Int32).toNatClampNeg (some (g2 0))) (3 : Int32).toNatClampNeg (some (g3 0))))))))) :: ((((([] : va_W) ++ BX8 (gcl G) g0) ++ BX8 (gcl G) g1) ++ BX8 (gcl G) g2) ++ BX8 (gcl G) g3) := ⟨_, rfl⟩
  have hP : va_P (gD G) clX ((a, .inr (11, ([.ref (f0 0), .ref (f1 0), .int (0 : Int32), .ref (f2 0), .ref (f3 0), .ref (f4 0), .ref (f5 0), .ref (f6 0), .ref (f7 0), .ref (f8 0), .ref (f9 0), .ref q] : List Value))) :: (((P ++ S) ++ [(q, .inl (cA, (4, .inr (.inr (.inr (.inr (va_up (va_up (va_up (va_up (fun _ => none) (0 : Int32).toNatClampNeg (some (g0 0))) (1 : Int32).toNatClampNeg (some (g1 0))) (2 : Int32).toNatClampNeg (some (g2 0))) (3 : Int32).toNatClampNeg (some (g3 0)))))))))]) ++ (((([] : va_W) ++ BX8 (gcl G) g0) ++ BX8 (gcl G) g1) ++ BX8 (gcl G) g2) ++ BX8 (gcl G) g3)) H := hP
  have hD : va_D A ((a, .inr (11, ([.ref (f0 0), .ref (f1 0), .int (0 : Int32), .ref (f2 0), .ref (f3 0), .ref (f4 0), .ref (f5 0), .ref (f6 0), .ref (f7 0), .ref (f8 0), .ref (f9 0), .ref q] : List Value))) :: (((P ++ S) ++ [(q, .inl (cA, (4, .inr (.inr (.inr (.inr (va_up (va_up (va_up (va_up (fun _ => none) (0 : Int32).toNatClampNeg (some (g0 0))) (1 : Int32).toNatClampNeg (some (g1 0))) (2 : Int32).toNatClampNeg (some (g2 0))) (3 : Int32).toNatClampNeg (some (g3 0)))))))))]) ++ (((([] : va_W) ++ BX8 (gcl G) g0) ++ BX8 (gcl G) g1) ++ BX8 (gcl G) g2) ++ BX8 (gcl G) g3)) := hD
  have eZ : ((a, .inr (11, ([.ref (f0 0), .ref (f1 0), .int (0 : Int32), .ref (f2 0), .ref (f3 0), .ref (f4 0), .ref (f5 0), .ref (f6 0), .ref (f7 0), .ref (f8 0), .ref (f9 0), .ref q] : List Value))) :: (((P ++ S) ++ [(q, .inl (cA, (4, .inr (.inr (.inr (.inr (va_up (va_up (va_up (va_up (fun _ => none) (0 : Int32).toNatClampNeg (some (g0 0))) (1 : Int32).toNatClampNeg (some (g1 0))) (2 : Int32).toNatClampNeg (some (g2 0))) (3 : Int32).toNatClampNeg (some (g3 0)))))))))]) ++ (((([] : va_W) ++ BX8 (gcl G) g0) ++ BX8 (gcl G) g1) ++ BX8 (gcl G) g2) ++ BX8 (gcl G) g3)) = (((a, .inr (11, ([.ref (f0 0), .ref (f1 0), .int (0 : Int32), .ref (f2 0), .ref (f3 0), .ref (f4 0), .ref (f5 0), .ref (f6 0), .ref (f7 0), .ref (f8 0), .ref (f9 0), .ref q] : List Value))) :: P) ++ S) ++ Z := by rw [hZe]; simp only [List.append_assoc, List.cons_append, List.nil_append, List.append_nil]
  rw [eZ] at hP hD
  refine n_tail11 (f := f9) (by rw [hSe]) hx hb hml hown hts hIn.1 hK hBg hov hA ⟨Nat.le_of_ble_eq_true rfl, Nat.le_of_ble_eq_true rfl⟩ ⟨Nat.le_of_ble_eq_true rfl, Nat.le_of_ble_eq_true rfl⟩ rfl hP hD hS hl (fun H locs ls hP hD hS => ?_)
  obtain ⟨g, hg⟩ : ∃ g : Nat → Nat, g = (fun k => xnd 0 [a, f0 0, f0 1, f0 2, f0 3, f0 4, f0 5, f0 6, f0 7, f0 8, f0 9, f0 10, f0 11, f0 12, f0 13, f0 14, f0 15, f0 16, f0 17, f0 18, f0 19, f0 20, f0 21, f1 0, f1 1, f1 2, f1 3, f1 4, f1 5, f1 6, f1 7, f1 8, f1 9, f1 10, f1 11, f1 12, f1 13, f1 14, f1 15, f1 16, f1 17, f1 18, f1 19, f1 20, f1 21, f2 0, f2 1, f2 2, f2 3, f3 0, f4 0, f4 1, f4 2, f4 3, f4 4, f5 0, f5 1, f5 2, f5 3, f5 4, f5 5, f5 6, f5 7, f5 8, f6 0, f6 1, f7 0, f7 1, f8 0, f8 1, f9 0, f9 1, q, g0 0, g0 1, g1 0, g1 1, g2 0, g2 1, g3 0, g3 1] k) := ⟨_, rfl⟩
  have h1 : BX10 (gcl G) (fun z => g (1 + z)) = BX10 (gcl G) f0 := by rw [hg]; rfl
  have h23 : BX10 (gcl G) (fun z => g (23 + z)) = BX10 (gcl G) f1 := by rw [hg]; rfl
  have h45 : BX3 (gcl G) (fun z => g (45 + z)) = BX3 (gcl G) f2 := by rw [hg]; rfl
  have h49 : BX2 (gcl G) (fun z => g (49 + z)) = BX2 (gcl G) f3 := by rw [hg]; rfl
  have h50 : BX6 (gcl G) (fun z => g (50 + z)) = BX6 (gcl G) f4 := by rw [hg]; rfl
  have h55 : BX9 (gcl G) (fun z => g (55 + z)) = BX9 (gcl G) f5 := by rw [hg]; rfl
  have h64 : BX1 (gcl G) (fun z => g (64 + z)) = BX1 (gcl G) f6 := by rw [hg]; rfl
  have h66 : BX0 (gcl G) (fun z => g (66 + z)) = BX0 (gcl G) f7 := by rw [hg]; rfl
  have h68 : BX7 (gcl G) (30 : Int32) (2 : Int32) 60 (fun z => g (68 + z)) = BX7 (gcl G) (30 : Int32) (2 : Int32) 60 f8 := by rw [hg]; rfl
  have h73 : BX8 (gcl G) (fun z => g (73 + z)) = BX8 (gcl G) g0 := by rw [hg]; rfl
  have h75 : BX8 (gcl G) (fun z => g (75 + z)) = BX8 (gcl G) g1 := by rw [hg]; rfl
  have h77 : BX8 (gcl G) (fun z => g (77 + z)) = BX8 (gcl G) g2 := by rw [hg]; rfl
  have h79 : BX8 (gcl G) (fun z => g (79 + z)) = BX8 (gcl G) g3 := by rw [hg]; rfl
  have hP1 : BP11 (gcl G) g = P := by rw [hPe]; unfold BP11; rw [h1, h23, h45, h49, h50, h55, h64, h66, h68]
  have a0 : g 0 = a := by rw [hg]; rfl
  have a1 : g 1 = f0 0 := by rw [hg]; rfl
  have a23 : g 23 = f1 0 := by rw [hg]; rfl
  have a45 : g 45 = f2 0 := by rw [hg]; rfl
  have a49 : g 49 = f3 0 := by rw [hg]; rfl
  have a50 : g 50 = f4 0 := by rw [hg]; rfl
  have a55 : g 55 = f5 0 := by rw [hg]; rfl
  have a64 : g 64 = f6 0 := by rw [hg]; rfl
  have a66 : g 66 = f7 0 := by rw [hg]; rfl
  have a68 : g 68 = f8 0 := by rw [hg]; rfl
  have a70 : g 70 = f9 0 := by rw [hg]; rfl
  have a71 : g 71 = f9 1 := by rw [hg]; rfl
  have a72 : g 72 = q := by rw [hg]; rfl
  have a73 : g 73 = g0 0 := by rw [hg]; rfl
  have a75 : g 75 = g1 0 := by rw [hg]; rfl
  have a77 : g 77 = g2 0 := by rw [hg]; rfl
  have a79 : g 79 = g3 0 := by rw [hg]; rfl
  have eB : (((a, .inr (11, ([.ref (f0 0), .ref (f1 0), .int (0 : Int32), .ref (f2 0), .ref (f3 0), .ref (f4 0), .ref (f5 0), .ref (f6 0), .ref (f7 0), .ref (f8 0), .ref (f9 0), .ref q] : List Value))) :: P) ++ [(f9 0, .inr (7, [.int (zI 4), .int (zI 3), .ref (f9 1), .int (zI 4)])), (f9 1, .inl (gcl G 1, (12, .inl (hI nZ4 71))))]) ++ Z = BX11 (gcl G) cA g := by
    unfold BX11
    rw [hP1, hZe, h73, h75, h77, h79, a0, a1, a23, a45, a49, a50, a55, a64, a66, a68, a70, a71, a72, a73, a75, a77, a79]
  rw [eB] at hP hD
  refine W.widen (k := 80) (n := 5591) (Nat.le_of_ble_eq_true rfl) (Nat.le_of_ble_eq_true rfl) ?_
  exact W.vret hx hb hr (fun t ht hW => ⟨⟨(g, cA), rfl, a0, by rw [ht]; exact hP, hD, va_K.moved hW.alike hK⟩, hS.F ht⟩) hS.2.2 (show decode cX11_init 203 = .ok (.return_, 1) by decide +kernel)
