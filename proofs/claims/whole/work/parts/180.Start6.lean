/-! THE LAW, part 9: from its entry: the model -/
set_option maxHeartbeats 8000000 in
set_option maxRecDepth 100000 in
theorem n_first12 {p : Program} {e : Env} {s : State} {m : MethodId} {below : List Frame} {meth : Method} {c : Code} {l : Launch} {b : Nat} {Q : State → Prop} {ls : Array Slot} {G : xG} {W1 : va_W} {tys : List (ClassId × FieldType)} {H : Heap} {locs : List Loc} (hx : p.tables.exec = Jvm.exec) (hb : c.code = code) (hml : c.maxLocals = 4) (hown : s.vm.findClass R_law = some m.cls) (hts : ∀ w ∈ lw_tbl, w.before #[Value.ref b] s = true) (hIn : nIn (gD G) (gcl G) s) (hK : va_K (gD G) clX tys s) (hBg : xBg G (fun q => s.heap.size ≤ q) s) (hls : ls.size = 4) (hP : va_P (gD G) clX W1 H) (hD : va_D (fun q => s.heap.size ≤ q) W1) (hS : va_S (fun q => s.heap.size ≤ q) s.heap H locs)
    (kk : ∀ (u : (Nat → Nat) × ClassId × ClassId) (H : Heap) (locs : List Loc), va_P (gD G) clX (W1 ++ BX12 (gcl G) (gas G) u.2.1 u.2.2 u.1) H → va_D (fun q => s.heap.size ≤ q) (W1 ++ BX12 (gcl G) (gas G) u.2.1 u.2.2 u.1) → va_K (gD G) clX ((nTy (gcl G) ++ [(u.2.1, .object "java/lang/String")]) ++ [(u.2.2, .object "java/lang/String")]) s → va_S (fun q => s.heap.size ≤ q) s.heap H locs → W p l e room_1 s m #[Value.ref b] below meth c H locs ((1 + 80) + 1 + 23) ((12 + 5591) + 45 + 17224) Q (F0 m 15 ls [.ref (u.1 0)])) : W p l e room_1 s m #[Value.ref b] below meth c H locs (1 + 80) (12 + 5591) Q (F0 m 8 ls []) := by
  have hx' : ∀ w ∈ xTs, w.before #[Value.ref b] s = true := fun w hw => hts w (List.mem_filter.mp hw).1
  have hA : ∀ q : Nat, s.heap.size ≤ q → (fun q : Nat => s.heap.size ≤ q) q := fun _ h => h
  obtain ⟨c1, -, c3, c4, c5⟩ := clX_ok 12 _ rfl
  refine va_new (C := RX12) (T := TX12) (N := 45) (ci := 12) (fs := [.null, .null, .int 0, .null, .int 0, .int 0, .int 0, .int 0, .int 0, .null, .null, .null, .null, .int 0, .null, .null, .int 0, .null, .null, .int 0, .int 0, .int 0, .int 0, .int 0, .int 0, .int 0, .null, .null, .int 0, .null, .null, .int 0, .null, .null, .null, .null, .null, .null, .null, .null, .int 0, .int 0, .int 0, .int 0, .int 0]) hx hb hx' c1 tyX12 tyX12_ok hown (hts (.classLink R_law 10 RX12) (by decide +kernel)) (hts (.instantiable RX12 45) (by decide +kernel)) (hts (.initialized RX12) (by decide +kernel)) hK hP hD hS hA c4 (fun j hj => by match j, hj with | 0, _ => rfl | 1, _ => rfl | 2, _ => rfl | 3, _ => rfl | 4, _ => rfl | 5, _ => rfl | 6, _ => rfl | 7, _ => rfl | 8, _ => rfl | 9, _ => rfl | 10, _ => rfl | 11, _ => rfl | 12, _ => rfl | 13, _ => rfl | 14, _ => rfl | 15, _ => rfl | 16, _ => rfl | 17, _ => rfl | 18, _ => rfl | 19, _ => rfl | 20, _ => rfl | 21, _ => rfl | 22, _ => rfl | 23, _ => rfl | 24, _ => rfl | 25, _ => rfl | 26, _ => rfl | 27, _ => rfl | 28, _ => rfl | 29, _ => rfl | 30, _ => rfl | 31, _ => rfl | 32, _ => rfl | 33, _ => rfl | 34, _ => rfl | 35, _ => rfl | 36, _ => rfl | 37, _ => rfl | 38, _ => rfl | 39, _ => rfl | 40, _ => rfl | 41, _ => rfl | 42, _ => rfl | 43, _ => rfl | 44, _ => rfl | z + 45, h => exact absurd h (by omega)) (Nat.le_of_ble_eq_true rfl) (Nat.le_of_ble_eq_true rfl) (show decode code 8 = .ok (.new 10, 3) by decide +kernel) (fun q H hP hD hS => ?_)
  refine lv_dup hx hb (show decode code 11 = .ok (.dup, 1) by decide +kernel) rfl ?_
  have hF : ∀ x, va_A [(q, .inr (12, ([.null, .null, .int 0, .null, .int 0, .int 0, .int 0, .int 0, .int 0, .null, .null, .null, .null, .int 0, .null, .null, .int 0, .null, .null, .int 0, .int 0, .int 0, .int 0, .int 0, .int 0, .int 0, .null, .null, .int 0, .null, .null, .int 0, .null, .null, .null, .null, .null, .null, .null, .null, .int 0, .int 0, .int 0, .int 0, .int 0] : List Value)))] H.size x → s.heap.size ≤ x := by
    intro x hx2
    rcases hx2 with ⟨k, z, hz⟩ | hz
    · exact (n_lastD hD).2 k _ hz
    · exact Nat.le_trans hS.1 hz
  have hM := nX12 l G q H.size
  have hcw := cwI (R := room_1) (own := R_law) (index := 12) (y := yX12_init) (mc := 23) (ms := 17224) (rm := { frames := 1, cells := 23, slots := 17224, locals := 20 }) 0 hx' (xTs_good (L := .code yX12_init cX12_init 1 none :: xTs) (by
    intro z hz
    rcases List.mem_cons.mp hz with q | q
    · rw [q]; exact xin_mem (by decide +kernel)
    · exact q)) rfl rfl rfl (hts (.initialized RX12) (by decide +kernel)) (hts (.methodLink R_law 12 yX12_init) (by decide +kernel)) (hts (.instanceMethod yX12_init) (by decide +kernel)) rfl (by decide +kernel) ⟨Nat.le_of_ble_eq_true rfl, Nat.le_of_ble_eq_true rfl⟩
  refine va_callv (va_runI (As := []) (rest := [.ref q]) ⟨hx, hb, hml, hown, hx'⟩ hM hcw ⟨fun a U g mk z => ⟨z.1, z.2.1, z.2.2.1, nIn_call z.2.2.2.1, z.2.2.2.2.1, xBg_call z.2.2.2.2.2.1, va_AO.moved (u := U) (U := U.calling g mk a) (Vm.Alike.refl U.vm) z.2.2.2.2.2.2⟩, fun U hU hW => ⟨rfl, by rw [hU], by rw [hU]; exact n_lastP hP, nIn_to hIn hW, (n_lastD hD).weaken (fun _ _ _ _ => trivial), xBg_narrow (xBg_to hBg hS hU hW) hF, va_AO.moved hW.alike (va_AO.of (hts _ n_w7.2.2.2.2.2.2.2.2))⟩⟩ rfl rfl hls rfl (lv_room (Nat.le_of_ble_eq_true rfl)) (show decode code 12 = .ok (.invokespecial 12, 3) by decide +kernel) ⟨Nat.le_of_ble_eq_true rfl, Nat.le_of_ble_eq_true rfl⟩) hS (fun x _ h => hF x h) hF (fun u t H1 locs ht hvm hw hB hz1 hk1 hS => ?_)
  obtain ⟨hP1, hD1, hK1⟩ := hB
  rw [ht] at hP1
  have hK1 := va_K.moved hvm.symm hK1
  obtain ⟨a1, a2⟩ := n_join hP hD hk1 hF hP1 hD1
  have hw : u.1 0 = q := hw
  rw [← hw]
  exact kk u H1 locs a1 a2 hK1 hS
