/-! THE LAW, part 11: from its entry -/
set_option maxHeartbeats 4000000 in
theorem whole_start {p : Program} {e : Env} {s : State} {m : MethodId} {below : List Frame} {meth : Method} {c : Code} (l : Launch) (hflags : l.flags = flags0) {b L : Nat} {xs : Nat → Int32} (hL : L ≤ 384) (C0 : lw_At p s m meth c b L xs) : W p l e room_1 s m #[Value.ref b] below meth c s.heap [] 0 0 (lw_Z below #[Value.ref b] s) (entryFrame m ([Value.ref b] : List Value).toArray 4) := by
  obtain ⟨hx, hb, hr, hml, hown, hts, hX, hbl, hlocks, hgv⟩ := id C0
  have hx' : ∀ w ∈ xTs, w.before #[Value.ref b] s = true := fun w hw => hts w (List.mem_filter.mp hw).1
  obtain ⟨D, gc, hIn⟩ := n_in hts
  obtain ⟨gac, gas, gav, gv, hcat, hBg⟩ := n_bg hts hgv
  have hl := lv_entry ([.ref b] : List Value) (n := 4) (Nat.le_of_ble_eq_true rfl)
  rw [lg_entry_eq]
  generalize (lg_sl ([.ref b] : List Value) ++ List.replicate (4 - (lg_sl ([.ref b] : List Value)).length) Slot.unset).toArray = ls at hl ⊢
  have hl : lv_has ls 4 [(0, .ref b)] := hl
  refine n_first11 (G := (D, (fun _ => 0), gac, gas, gav, gv, gc)) hx hb hml hown hts hIn hcat (hBg _ _ _) hl (fun u H locs hP hD hK1 hS => ?_)
  refine lv_astore_n (lv' := [(1, .ref (u.1 0)), (0, .ref b)]) hx hb (show decode code 7 = .ok (.astore_n 1, 1) by decide +kernel) rfl hl (by decide) rfl (fun ls hl => ?_)
  refine n_first12 (G := (D, (fun _ => 0), gac, gas, gav, gv, gc)) hx hb hml hown hts hIn hK1 (hBg _ _ _) hl.1 hP hD hS (fun u2 H locs hP hD hK2 hS => ?_)
  refine lv_astore_n (lv' := [(2, .ref (u2.1 0)), (1, .ref (u.1 0)), (0, .ref b)]) hx hb (show decode code 15 = .ok (.astore_n 2, 1) by decide +kernel) rfl hl (by decide) rfl (fun ls hl => ?_)
  refine lv_iconst (v := nI 0) hx hb (show decode code 16 = .ok (.iconst 0, 1) by decide +kernel) rfl ?_
  refine lv_istore_n (lv' := [(3, .int (nI 0)), (2, .ref (u2.1 0)), (1, .ref (u.1 0)), (0, .ref b)]) hx hb (show decode code 17 = .ok (.istore_n 3, 1) by decide +kernel) rfl hl (by decide) rfl (fun ls hl => ?_)
  obtain ⟨f, c6⟩ := u
  obtain ⟨g, c7, c8⟩ := u2
  have e78 : c7 = c8 := by
    obtain ⟨_, _, _, _, _, q1⟩ := (hK2.2 3 _ rfl).2
    obtain ⟨_, _, _, _, _, q2⟩ := (hK2.2 4 _ rfl).2
    exact Option.some.inj (q1.symm.trans q2)
  subst e78
  obtain ⟨G, hG⟩ : ∃ G : xG, G = (D, (fun o => if o < 100 then f o else g (o - 100)), gac, gas, gav, gv, (fun t => if t < 4 then gc t else if t = 6 then c6 else c7)) := ⟨_, rfl⟩
  obtain ⟨e1, e2⟩ := n_e11 D gac gas gav gv gc f g c6 c7 G hG
  have hP : va_P D clX (BX11 gc c6 f ++ BX12 gc gas c7 c7 g) H := hP
  have hD : va_D (fun q => s.heap.size ≤ q) (BX11 gc c6 f ++ BX12 gc gas c7 c7 g) := hD
  rw [e1, e2] at hP hD
  rw [show D = gD G by rw [hG]] at hP
  have hP := n_P12 (n_P11 hP)
  have hD := n_D12 (n_D11 hD)
  rw [← nZ_h] at hP hD
  have inj : ∀ lo n, (∃ X Y : va_W, nWd G (hI nZ) = X ++ xwd G lo n (hI nZ) ++ Y) → ∀ i j, i < n → j < n → gad G (lo + i) = gad G (lo + j) → i = j := by
    rintro lo n ⟨X, Y, h⟩ i j hi hj hij
    have hD2 : va_D (fun q => s.heap.size ≤ q) (X ++ xwd G lo n (hI nZ) ++ Y) := by rw [← h]; exact hD
    have hD3 := n_lastD (n_firstD hD2)
    have a1 := xwd_at G (lo := lo) (n := n) (o := lo + i) (hI nZ) (by omega) (by omega)
    have a2 := xwd_at G (lo := lo) (n := n) (o := lo + j) (hI nZ) (by omega) (by omega)
    have := hD3.1 _ _ _ _ a1 a2 hij
    omega
  have hov : (gov G).category = 1 := by rw [hG]; exact hcat
  have hG0 : xGo G 0 81 [1, 2, 6] := ⟨inj 0 81 ⟨[], xwd G 100 24 (hI nZ), rfl⟩, hov, n_lay0⟩
  have hG1 : xGo G 100 24 [1, 3, 7] := ⟨inj 100 24 ⟨xwd G 0 81 (hI nZ), [], (List.append_nil _).symm⟩, hov, n_lay100⟩
  have hK0 : va_K (gD G) clX (xtys G [1, 2, 6]) s := by
    have q := hK1.sub (tys' := [(gc 1, .int), (gc 2, .byte), (c6, .object "DeadStick$Sheet")]) [0, 1, 3] rfl
    rw [hG]
    exact q
  have hK9 : va_K (gD G) clX (xtys G [1, 3, 7]) s := by
    have q := hK2.sub (tys' := [(gc 1, .int), (gc 3, .boolean), (c7, .object "java/lang/String")]) [0, 2, 3] rfl
    rw [hG]
    exact q
  have hB9 : xBg G (fun q => s.heap.size ≤ q) s := by rw [hG]; exact hBg _ _ _
  have g0 : f 0 = gad G 0 := by rw [hG]; rfl
  have g1 : g 0 = gad G 100 := by rw [hG]; rfl
  refine W.widen (k := 600000) (n := 7302250) (Nat.le_of_ble_eq_true rfl) (Nat.le_of_ble_eq_true rfl) ?_
  refine law_loop (G := G) ⟨hx, hb, hml, hown, hx', hX, hbl, hK0, hK9, hB9, hG0, hG1, hL⟩ hr hlocks (L + 1) 0 (Nat.zero_le _) (by omega) nZ H locs ls nZ_Inv hP hD hS ?_
  rw [← g0, ← g1]
  exact hl
set_option maxHeartbeats 4000000 in
theorem lw_walk (l : Launch) (hflags : l.flags = flags0) (b : Addr) (xs : List Int32) : MetFree l x (headSpec (Jvm.Cond.code x code maxLocals ret :: tables_1) room_1) (lw_P b xs) (fun _ _ _ _ _ => True) lw_Q := by
  refine MetFree.of_bodyS (code := code) (maxLocals := maxLocals) (ret := ret) (by decide) ?_ ?_
  · intro args s m h hn
    obtain ⟨meth, c, h1, h2, h3, h4, h5, h6, -, -⟩ := Cond.code_spec hn (atoms_spec (ws := Jvm.Cond.code x code maxLocals ret :: tables_1) h _ List.mem_cons_self)
    exact ⟨meth, c, h1, h2, h3, h4, h5, h6⟩
  · intro p e s m args below meth c s₁ B hml0 hP _
    obtain ⟨rfl, hx, hbd, hgv⟩ := hP
    obtain ⟨scr, harrAt, hlist, hof, hsmall⟩ := hx
    obtain ⟨hcb, hkn, -, -⟩ := State.arrayAt?_spec harrAt
    have hown : s.vm.findClass R_law = some m.cls := findClass_of_methodNamed B.named
    have hts0 : ∀ c ∈ (Jvm.Cond.code x code maxLocals ret :: tables_1), c.before #[Value.ref b] s = true := atoms_spec (ws := Jvm.Cond.code x code maxLocals ret :: tables_1) B.pre
    have hts : ∀ w ∈ lw_tbl, w.before #[Value.ref b] s = true := k2_hts_sels lw_privs (fun w hw => hts0 w (List.mem_cons_of_mem _ hw)) lw_privs_ok
    have hml : c.maxLocals = 4 := B.maxLocals_eq (hts0 _ List.mem_cons_self)
    have X₀ : Stand p l e room_1 s m #[Value.ref b] below meth c s₁ [] 0 0 := Stand.of_body B
    have hh0 : s₁.heap = s.heap := by rw [B.state]; rfl
    have hsz : scr.slots.size = xs.length := by rw [← Array.length_toList, hlist, List.length_map]
    have hval : ∀ j : Nat, j < xs.length → scr.slots[j]? = some (.int (xs.getD j 0)) := fun j hj => by
      rw [← Array.getElem?_toList, hlist]
      simp [hj]
    have hbl : b < s.heap.size := (Array.getElem?_eq_some_iff.mp hcb).1
    have hX : va_X b xs.length (fun j => xs.getD j 0) s s.heap := ⟨scr, hcb, hof, hkn, hsz, hval⟩
    have K : W p l e room_1 s m #[Value.ref b] below meth c s₁.heap [] 0 0 (lw_Z below #[Value.ref b] s) (entryFrame m ([Value.ref b] : List Value).toArray 4) := by
      rw [hh0]
      exact whole_start l hflags hbd ⟨B.exec, B.bytes, B.returns, hml, hown, hts, hX, hbl, B.notSynchronized, hgv⟩
    obtain ⟨t, a1, o, b1, b2, b3⟩ := K s₁ rfl X₀
    exact ⟨t, o, a1, b1, b2, b3⟩
theorem lw_pre_spec {args : Array Value} {s : State} (h : (Jvm.Cond.and given_1 narrow_1).before args s = true) (hr : rest_1_c.before args s = true) : ∃ (b : Addr) (xs : List Int32), lw_P b xs args s := by
  have hs := flat_of_before _ h
  have hq := flat_of_before _ hr
  have hc : (Cond.count 1).before args s = true := hs _ (by decide +kernel)
  have harr : (Cond.arrayOf (.arg 0) .int).before args s = true := hs _ (by decide +kernel)
  have hle : (Cond.le (.length (.arg 0)) (.int 384)).before args s = true := hs _ (by decide +kernel)
  have hlen : (Cond.isInt (.length (.arg 0))).before args s = true := hq _ (by decide +kernel)
  have hall : (Cond.all (.arg 0) (.isInt (.elem (.arg 0) (.index 0)))).before args s = true := hq _ (by decide +kernel)
  obtain ⟨b, xs, hb, hx⟩ := State.ints_of_pre rfl harr hlen hall
  have hsm : xs.length < 2 ^ 31 := hx.choose_spec.2.2.2
  have hev : (Term.length (.arg 0)).eval args s none [] s = some (.int xs.length.toInt32) := hx.length_eval hb
  have hv := Cond.le_ints hev (show (Term.int 384).eval args s none [] s = some (.int 384) from rfl)
  have hd : xs.length.toInt32 ≤ 384 := by
    simpa [Cond.before, Cond.holds, hv] using hle
  have hN : xs.length ≤ 384 := (Int32.ofNat_le_ofNat hsm (by decide)).mp (show Int32.ofNat xs.length ≤ Int32.ofNat 384 from hd)
  exact ⟨b, xs, Cond.one_arg hc (show args[0]? = some (.ref b) from hb), hx, hN, h⟩
theorem lw_comes (l : Launch) (hflags : l.flags = flags0) : Comes l x (Jvm.Cond.code x code maxLocals ret :: tables_1) room_1 (fun tb e args s => Calls_1 tb e args s ∧ rest_1 tb e args s ∧ Pre_1 tb e args s)
    (fun _ _ args s o t => lw_Q args s o t) := by
  intro p e ha hc hk s m args below hf hfit hheap happ hpre
  obtain ⟨b, xs, hP⟩ := lw_pre_spec hpre.2.2 hpre.2.1
  obtain ⟨k, o, h1, h2, h3, hQ⟩ := lw_walk l hflags b xs p e ha hc hk s m args below hf ((Spec.applies_iff_loose hf).mp happ).1 hP trivial
  exact ⟨k, o, h1, h2, h3, hQ⟩
theorem lw_frame {s t : State} {o : Outcome} {args : Array Value} (h : Framed s o t [] 600000 7302250) :
    Framed s o t (fieldLocs frame_1_writes args s ++ arrayLocs frame_1_arrays args s ++ staticLocs frame_1_statics s) 600000 7302250 := h
theorem lw_limb (L : Cond) (hL : ∀ (args : Array Value) (s t : State), L.after args s (.returned (some (.int 1))) t = true) :
    ArmFor flags0 classFile x code maxLocals ret World_1 tables_1 room_1 Calls_1 rest_1 Pre_1
      (fun tb e a s o t => postC L tb e a s o t ∧ Framed s o t (fieldLocs frame_1_writes a s ++ arrayLocs frame_1_arrays a s ++ staticLocs frame_1_statics s) 600000 7302250) := by
  intro l hflags _ _ p e ha hc hk s m args below hf hfit hheap happ hpre
  obtain ⟨k, o, h1, h2, h3, rfl, hF⟩ := lw_comes l hflags p e ha hc hk s m args below hf hfit hheap happ hpre
  exact ⟨k, _, h1, h2, h3, hL args s _, lw_frame hF⟩
theorem i_vc : Claimed_1_1 ∧ Claimed_1_2 := ⟨lw_limb limb_1_1 (fun args s t => by simp [limb_1_1, Cond.after, Cond.holds, Cond.value]), lw_limb limb_1_2 (fun args s t => Cond.after_iff.mpr (by
  first | (rw [show limb_1_2 = Cond.eq .result (.int 1) from rfl, Cond.eq_ints (x := 1) (y := 1) rfl rfl]; simp; done) | (simp [limb_1_2, Cond.value, Term.eval]; done)))⟩

