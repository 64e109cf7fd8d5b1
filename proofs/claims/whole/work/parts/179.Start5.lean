/-! THE LAW, part 8: from its entry: the two objects -/
set_option maxHeartbeats 8000000 in
set_option maxRecDepth 100000 in
theorem n_first11 {p : Program} {e : Env} {s : State} {m : MethodId} {below : List Frame} {meth : Method} {c : Code} {l : Launch} {b : Nat} {Q : State → Prop} {ls : Array Slot} {G : xG} (hx : p.tables.exec = Jvm.exec) (hb : c.code = code) (hml : c.maxLocals = 4) (hown : s.vm.findClass R_law = some m.cls) (hts : ∀ w ∈ lw_tbl, w.before #[Value.ref b] s = true) (hIn : nIn (gD G) (gcl G) s) (hcat : (gov G).category = 1) (hBg : xBg G (fun q => s.heap.size ≤ q) s) (hl : lv_has ls 4 [(0, .ref b)])
    (kk : ∀ (u : (Nat → Nat) × ClassId) (H : Heap) (locs : List Loc), va_P (gD G) clX (BX11 (gcl G) u.2 u.1) H → va_D (fun q => s.heap.size ≤ q) (BX11 (gcl G) u.2 u.1) → va_K (gD G) clX (nTy (gcl G) ++ [(u.2, .object "DeadStick$Sheet")]) s → va_S (fun q => s.heap.size ≤ q) s.heap H locs → W p l e room_1 s m #[Value.ref b] below meth c H locs (1 + 80) (12 + 5591) Q (F0 m 7 ls [.ref (u.1 0)])) : W p l e room_1 s m #[Value.ref b] below meth c s.heap [] 0 0 Q (F0 m 0 ls []) := by
  have hx' : ∀ w ∈ xTs, w.before #[Value.ref b] s = true := fun w hw => hts w (List.mem_filter.mp hw).1
  have hA : ∀ q : Nat, s.heap.size ≤ q → (fun q : Nat => s.heap.size ≤ q) q := fun _ h => h
  have hS : va_S (fun q : Nat => s.heap.size ≤ q) s.heap s.heap [] := va_S.rf
  have hP : va_P (gD G) clX [] s.heap := fun k q h => by simp at h
  have hD : va_D (fun q : Nat => s.heap.size ≤ q) [] := ⟨fun i j p q h => by simp at h, fun k q h => by simp at h⟩
  obtain ⟨c1, -, c3, c4, c5⟩ := clX_ok 11 _ rfl
  refine va_new (C := RX11) (T := TX11) (N := 12) (ci := 11) (fs := [.null, .null, .int 0, .null, .null, .null, .null, .null, .null, .null, .null, .null]) hx hb hx' c1 tyX11 tyX11_ok hown (hts (.classLink R_law 7 RX11) (by decide +kernel)) (hts (.instantiable RX11 12) (by decide +kernel)) (hts (.initialized RX11) (by decide +kernel)) hIn.1 hP hD hS hA c4 (fun j hj => by match j, hj with | 0, _ => rfl | 1, _ => rfl | 2, _ => rfl | 3, _ => rfl | 4, _ => rfl | 5, _ => rfl | 6, _ => rfl | 7, _ => rfl | 8, _ => rfl | 9, _ => rfl | 10, _ => rfl | 11, _ => rfl | z + 12, h => exact absurd h (by omega)) (Nat.le_of_ble_eq_true rfl) (Nat.le_of_ble_eq_true rfl) (show decode code 0 = .ok (.new 7, 3) by decide +kernel) (fun q H hP hD hS => ?_)
  have hP : va_P (gD G) clX ([] ++ [(q, .inr (11, ([.null, .null, .int 0, .null, .null, .null, .null, .null, .null, .null, .null, .null] : List Value)))]) H := hP
  have hD : va_D (fun q : Nat => s.heap.size ≤ q) ([] ++ [(q, .inr (11, ([.null, .null, .int 0, .null, .null, .null, .null, .null, .null, .null, .null, .null] : List Value)))]) := hD
  refine lv_dup hx hb (show decode code 3 = .ok (.dup, 1) by decide +kernel) rfl ?_
  have hF : ∀ x, va_A [(q, .inr (11, ([.null, .null, .int 0, .null, .null, .null, .null, .null, .null, .null, .null, .null] : List Value)))] H.size x → s.heap.size ≤ x := by
    intro x hx2
    rcases hx2 with ⟨k, z, hz⟩ | hz
    · exact hD.2 k _ hz
    · exact Nat.le_trans hS.1 hz
  have hM := nX11 l G hcat q H.size
  have hcw := cwI (R := room_1) (own := R_law) (index := 9) (y := yX11_init) (mc := 80) (ms := 5591) (rm := { frames := 10, cells := 80, slots := 5591, locals := 400 }) 0 hx' (xTs_good (L := .code yX11_init cX11_init 2 none :: xTs) (by
    intro z hz
    rcases List.mem_cons.mp hz with q | q
    · rw [q]; exact xin_mem (by decide +kernel)
    · exact q)) rfl rfl rfl (hts (.initialized RX11) (by decide +kernel)) (hts (.methodLink R_law 9 yX11_init) (by decide +kernel)) (hts (.instanceMethod yX11_init) (by decide +kernel)) rfl (by decide +kernel) ⟨Nat.le_of_ble_eq_true rfl, Nat.le_of_ble_eq_true rfl⟩
  refine va_callv (va_runI (As := []) (rest := [.ref q]) ⟨hx, hb, hml, hown, hx'⟩ hM hcw ⟨fun a U g mk z => ⟨z.1, z.2.1, z.2.2.1, nIn_call z.2.2.2.1, z.2.2.2.2.1, xBg_call z.2.2.2.2.2.1, va_AO.moved (u := U) (U := U.calling g mk a) (Vm.Alike.refl U.vm) z.2.2.2.2.2.2⟩, fun U hU hW => ⟨rfl, by rw [hU], by rw [hU]; exact n_lastP hP, nIn_to hIn hW, (n_lastD hD).weaken (fun _ _ _ _ => trivial), xBg_narrow (xBg_to hBg hS hU hW) hF, va_AO.moved hW.alike (va_AO.of (hts _ n_w7.2.2.2.2.2.2.2.1))⟩⟩ rfl rfl hl.1 rfl (lv_room (Nat.le_of_ble_eq_true rfl)) (show decode code 4 = .ok (.invokespecial 9, 3) by decide +kernel) ⟨Nat.le_of_ble_eq_true rfl, Nat.le_of_ble_eq_true rfl⟩) hS (fun x _ h => hF x h) hF (fun u t H1 locs ht hvm hw hB hz1 hk1 hS => ?_)
  obtain ⟨hP1, hD1, hK1⟩ := hB
  rw [ht] at hP1
  have hK1 := va_K.moved hvm.symm hK1
  obtain ⟨a1, a2⟩ := n_join hP hD hk1 hF hP1 hD1
  have hw : u.1 0 = q := hw
  rw [← hw]
  exact kk u H1 locs a1 a2 hK1 hS
