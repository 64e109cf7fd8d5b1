/-! SOUNDNESS OF THE PURE MACHINE, part 4: calls, ends; a method; all methods -/
abbrev xWs (y : xMi) : List Cond := Cond.code y.1 y.2.1 y.2.2.1 y.2.2.2.1 :: xTs
def xPre (G : xG) (lo n : Nat) (tg : List Nat) (h : xH) (U : State) : Prop := va_P (gD G) clX (xwd G lo n h) U.heap ∧ va_K (gD G) clX (xtys G tg) U ∧ xBg G (xA G lo n) U
def xPost (G : xG) (lo n : Nat) (ret : Option FieldType) (v : Int32) (h : xH) : Array Value → State → Outcome → State → Prop := match ret with
  | none => va_Qv (fun _ : Unit => True) (fun _ t => va_P (gD G) clX (xwd G lo n h) t.heap) (xA G lo n)
  | some _ => va_Qi (fun (q : Int32) (_ : Unit) => q = v) (fun _ t => va_P (gD G) clX (xwd G lo n h) t.heap) (xA G lo n)
def xMet (l : Launch) (G : xG) (lo n : Nat) (tg : List Nat) (rm : Room) (y : xMi) (as : List xV) (h : xH) (v : Int32) (h' : xH) : Prop :=
  Met l y.1 (xWs y) rm (va_Pc (as.map (xcv G)) (xPre G lo n tg h)) (xPost G lo n y.2.2.2.1 v h') 0 0 (xA G lo n)
theorem xBg_call {G : xG} {A : Nat → Prop} {U : State} {g : JFrame} {mk : MethodId} {a : Array Value} (h : xBg G A U) : xBg G A (U.calling g mk a) := by
  obtain ⟨h1, h2, h3, h4, h5, h6, h7⟩ := h
  have hv := Vm.Alike.refl U.vm
  exact ⟨fun i hi => va_T.moved (u := U) (U := U.calling g mk a) hv (h1 i hi), fun i hi => va_Z.moved (u := U) (U := U.calling g mk a) hv (h2 i hi), va_Z.moved (u := U) (U := U.calling g mk a) hv h3, va_Z.moved (u := U) (U := U.calling g mk a) hv h4, fun i hi => ⟨va_O.moved (u := U) (U := U.calling g mk a) hv (h5 i hi).1, va_OF.moved (u := U) (U := U.calling g mk a) hv (h5 i hi).2.1, va_OF.moved (u := U) (U := U.calling g mk a) hv (h5 i hi).2.2.1, va_T.moved (u := U) (U := U.calling g mk a) hv (h5 i hi).2.2.2⟩, fun i hi => vk_R.same (u := U) (U := U.calling g mk a) rfl (h6 i hi), va_Nw.same (u := U) (U := U.calling g mk a) rfl rfl h7⟩
theorem xPre_blind {G : xG} {lo n : Nat} {tg : List Nat} {av : List Value} {h : xH} : FrameBlind (va_Pc av (xPre G lo n tg h)) :=
  fun a U g mk q => ⟨q.1, q.2.1, va_K.moved (u := U) (U := U.calling g mk a) (Vm.Alike.refl U.vm) q.2.2.1, xBg_call q.2.2.2⟩
/-- what the tables say of a method that is called -/
def xmOK (y : xMi) : Prop := Cond.code y.1 y.2.1 y.2.2.1 y.2.2.2.1 ∈ xTs ∧ (y.1.cls ≠ "java/lang/invoke/MethodHandle" ∧ y.1.cls ≠ "java/lang/invoke/VarHandle") ∧ (parseMethodDescriptor y.1.desc).map (fun d => d.parameters.length) = some (y.2.2.2.2.2 - (if y.2.2.2.2.1 then 0 else 1)) ∧ Cond.initialized y.1.cls ∈ xTs ∧
  (if y.2.2.2.2.1 then Cond.static y.1 ∈ xTs else Cond.instanceMethod y.1 ∈ xTs ∧ Cond.selects y.1.cls y.1 y.1 ∈ xTs) ∧ y.2.2.1 ≤ 40
def xRm (R rm : Room) : Prop := rm.cells = 0 ∧ rm.slots = 0 ∧ rm.frames + 1 ≤ R.frames ∧ rm.locals + 60 ≤ R.locals
section

variable {p : Program} {l : Launch} {e : Env} {R : Room} {s : State} {m : MethodId} {args : Array Value} {below : List Frame} {meth : Method} {c : Code} {own : String} {cc : ByteArray} {nL : Nat} {G : xG} {lo n : Nat} {tg : List Nat} {Q : State → Prop} {rt : Option FieldType}
variable {pc nx : Nat} {ls : List (Option xV)} {st : List xV} {h : xH} {r : Int32 × xH} {k : Nat → List (Option xV) → List xV → xH → xO}

theorem xcall_go (Cx : xCx p R s m args c own cc nL G lo n tg) (K : ∀ pc ls st h, k pc ls st h = some r → xJ p l e R s m args below meth c nL G lo n Q pc ls st h) {y : xMi} {cb : Nat} {u : List xV} {v : Int32} {h' : xH} {H : Heap} {locs : List Loc} {lsA : Array Slot} {st0 : List Value} {av : List Value}
    (hc : if cb = 0 then y.2.2.2.1 = none else y.2.2.2.1 ≠ none) (hk : k (pc + 3) ls (bif Nat.beq cb 0 then u else xI v :: u) h' = some r) (ho : xokl lo n ls) (hu : xoks lo n u) (hS : va_S (xA G lo n) s.heap H locs) (hL : xls G nL lsA ls)
    (hr : va_Run p l e R s m args below meth c H locs 0 0 0 0 (F0 m pc lsA st0) (u.map (xcv G)) (xPost G lo n y.2.2.2.1 v h' av.toArray) (xA G lo n)) : W p l e R s m args below meth c H locs 0 0 Q (F0 m pc lsA st0) := by
  cases hy : y.2.2.2.1 with
  | none =>
    have h0 : cb = 0 := by
      by_cases q : cb = 0
      · exact q
      · rw [if_neg q] at hc; exact absurd hy hc
    subst h0
    rw [hy] at hr
    refine va_callv (a := av.toArray) (A1 := xA G lo n) hr hS (fun _ _ z => z) (fun _ z => z) (fun _ t H1 locs1 ht hvm _ hB _ _ hS1 => ?_)
    rw [ht] at hB
    exact K _ _ _ _ hk H1 locs1 lsA ho hu hB hS1 hL
  | some ty =>
    have h0 : cb ≠ 0 := by
      intro q
      rw [if_pos q, hy] at hc
      cases hc
    rw [hy] at hr
    refine va_calli (a := av.toArray) (A1 := xA G lo n) hr hS (fun _ _ z => z) (fun _ z => z) (fun q _ t H1 locs1 ht hvm hq hB _ _ hS1 => ?_)
    have hq : q = v := hq
    subst hq
    rw [ht] at hB
    have e : Nat.beq cb 0 = false := by
      cases z : Nat.beq cb 0 with
      | true => exact absurd (xb_t z) h0
      | false => rfl
    rw [e] at hk
    exact K _ _ _ _ hk H1 locs1 lsA ho (xoks_I hu) hB hS1 hL
theorem xj_invV (Cx : xCx p R s m args c own cc nL G lo n tg) (K : ∀ pc ls st h, k pc ls st h = some r → xJ p l e R s m args below meth c nL G lo n Q pc ls st h) {a b cb d v : Nat} {rm : Room} {y : xMi} {cl : Nat → List xV → xH → xO} (hcl : ∀ as h v h', cl a as h = some (v, h') → xoks lo n as → xMet l G lo n tg rm y as h v h') (hrm : xRm R rm) (hy : xmOK y) (hlk : Cond.methodLink own v y.1 ∈ xTs) (hst : y.2.2.2.2.1 = false) (hbn : b = y.2.2.2.2.2) (hb0 : 0 < b) (hc : if cb = 0 then y.2.2.2.1 = none else y.2.2.2.1 ≠ none) (hd5 : (d = 5 ∧ y.1.cls = "java/lang/String") ∨ (16 ≤ d ∧ ∃ q, xat clX (d - 16) = some q ∧ q.1 = y.1.cls)) (hd : decode cc pc = .ok (.invokevirtual v, 3)) (hn : nx = pc + 3) (hk : (xcl (xtk b [] st) fun as st => xgd (xrc d as && xfit 4 st) (xbd (cl a as h) fun r h => k nx ls (bif Nat.beq cb 0 then st else xI r :: st) h)) = some r) : xJ p l e R s m args below meth c nL G lo n Q pc ls st h := by
  obtain ⟨hx, hb, hml, hown, hts, hKK, hBg, hGo, hfr, hlo⟩ := id Cx
  subst hn
  intro H locs lsA ho hs hP hS hL
  obtain ⟨⟨as, u⟩, htk, hk2⟩ := xcl_i hk
  obtain ⟨hg, hk3⟩ := xgd_i hk2
  obtain ⟨⟨w, h'⟩, hw, hk4⟩ := xbd_i hk3
  obtain ⟨t, e1, e2, e3⟩ := xtk_eq _ _ _ _ htk
  have e1 : st = t ++ u := e1
  have e2 : as = t.reverse := by simpa using e2
  rw [Bool.and_eq_true] at hg
  obtain ⟨hrc, hfit⟩ := hg
  have hd0 : d ≠ 0 := by omega
  obtain ⟨o, As, e4⟩ : ∃ o As, as = xR d o :: As := by
    obtain ⟨d', rfl⟩ : ∃ d', d = d' + 1 := ⟨d - 1, by omega⟩
    cases as with
    | nil => cases hrc
    | cons x As =>
      rcases x with x | x | ⟨t, o⟩
      · cases hrc
      · cases hrc
      · have := xb_t hrc
        subst this
        exact ⟨o, As, rfl⟩
  have hsu : xoks lo n u := fun x hx => hs x (by rw [e1]; exact List.mem_append_right _ hx)
  have hsa : xoks lo n as := fun x hx => hs x (by rw [e1, e2] at *; exact List.mem_append_left _ (List.mem_reverse.mp hx))
  have hM := hcl as h w h' hw hsa
  obtain ⟨m1, m2, m3, m4, m5, m6⟩ := hy
  rw [hst] at m3 m5
  have m5 : Cond.instanceMethod y.1 ∈ xTs ∧ Cond.selects y.1.cls y.1 y.1 ∈ xTs := m5
  have hlen : As.length + 1 = b := by
    have := congrArg List.length (e2.symm.trans e4)
    rw [List.length_reverse, e3, List.length_cons] at this
    omega
  have est : st.map (xcv G) = (As.map (xcv G)).reverse ++ Value.ref (xadr G d o) :: u.map (xcv G) := by
    have e5 : t = As.reverse ++ [xR d o] := by
      have := congrArg List.reverse (e2.symm.trans e4)
      rw [List.reverse_reverse, List.reverse_cons] at this
      exact this
    rw [e1, e5, List.map_append, List.map_append, List.map_cons, List.map_nil, xcv_R hd0, List.map_reverse, List.append_assoc]
    rfl
  have eas : as.map (xcv G) = Value.ref (xadr G d o) :: As.map (xcv G) := by rw [e4, List.map_cons, xcv_R hd0]
  have hrf : xrf lo n d o := hsa (xR d o) (by rw [e4]; exact List.mem_cons_self)
  have hrecv : ∃ cell : Cell, H[xadr G d o]? = some cell ∧ cell.vm.isStatics = false ∧ s.vm.findClass y.1.cls = some cell.cls := by
    rcases hd5 with ⟨q1, q2⟩ | ⟨q1, q, q2, q3⟩
    · subst q1
      have ho16 : o < 16 := by
        rcases hrf with q | q | q | q | q
        · cases q
        · cases q.1
        · exact q.2
        · cases q.1
        · exact absurd rfl q.2.2.2.2.1
      obtain ⟨cell, h1, h2, h3, -⟩ := (hBg.2.2.2.2.1 o ho16).1.kept hS.2.1
      exact ⟨cell, h1, h2, by rw [q2]; exact h3⟩
    · obtain ⟨r1, r2, r3⟩ := xrf_in hrf (by omega) (by omega) (by omega) (by omega)
      have hat := xwd_at G h r1 r2
      rw [xen_obj (by omega), r3] at hat
      rw [xadr_ad (by omega) (by omega) (by omega), ← q3]
      exact va_recv hKK hP (clX_ok _ _ q2).2.2.2.1 hat
  rw [est]
  have hM : Met l y.1 (xWs y) rm (va_Pc (as.map (xcv G)) (xPre G lo n tg h)) (xPost G lo n y.2.2.2.1 w h') 0 0 (xA G lo n) := hM
  rw [eas] at hM
  have hcw := cwV (R := R) (own := own) (index := v) (C := y.1.cls) (y := y.1) (mc := 0) (ms := 0) (rm := rm) As.length hts (xTs_good (L := wsV own v y.1.cls y.1 (xWs y)) (by
    intro z hz
    simp only [wsV, List.cons_append, List.nil_append, List.mem_cons] at hz
    rcases hz with q | q | q | q | q | q
    · rw [q]; exact hlk
    · rw [q]; exact m5.1
    · rw [q]; exact m5.2
    · rw [q]; exact m4
    · rw [q]; exact m1
    · exact q)) rfl hrm.1 hrm.2.1 ⟨rfl, m2.1, m2.2, by rw [m3]; simp only [Bool.false_eq_true, if_false]; congr 1; omega⟩ ⟨hrm.2.2.1, by have := hrm.2.2.2; omega⟩
  have hrun := va_runV (p := p) (l := l) (e := e) (below := below) (meth := meth) (H := H) (locs := locs) (cells := 0) (slots := 0) (b := xadr G d o) (As := As.map (xcv G)) (rest := u.map (xcv G)) (g := F0 m pc lsA ((As.map (xcv G)).reverse ++ Value.ref (xadr G d o) :: u.map (xcv G))) ⟨hx, hb, hml, hown, hts⟩ hM hcw ⟨xPre_blind, hrecv, fun U hU hW => ⟨rfl, by rw [hU]; exact hP, va_K.moved hW.alike hKK, xBg_to hBg hS hU hW⟩⟩ rfl (List.length_map ..) hL.1 rfl (lv_room (xfit_sum 4 u hfit)) hd ⟨Nat.zero_le _, Nat.zero_le _⟩
  exact xcall_go Cx K hc hk4 ho hsu hS hL hrun
theorem xj_invS (Cx : xCx p R s m args c own cc nL G lo n tg) (K : ∀ pc ls st h, k pc ls st h = some r → xJ p l e R s m args below meth c nL G lo n Q pc ls st h) {a b cb v : Nat} {rm : Room} {y : xMi} {cl : Nat → List xV → xH → xO} (hcl : ∀ as h v h', cl a as h = some (v, h') → xoks lo n as → xMet l G lo n tg rm y as h v h') (hrm : xRm R rm) (hy : xmOK y) (hlk : Cond.methodLink own v y.1 ∈ xTs) (hst : y.2.2.2.2.1 = true) (hbn : b = y.2.2.2.2.2) (hc : if cb = 0 then y.2.2.2.1 = none else y.2.2.2.1 ≠ none) (hd : decode cc pc = .ok (.invokestatic v, 3)) (hn : nx = pc + 3) (hk : (xcl (xtk b [] st) fun as st => xgd (xfit 4 st) (xbd (cl a as h) fun r h => k nx ls (bif Nat.beq cb 0 then st else xI r :: st) h)) = some r) : xJ p l e R s m args below meth c nL G lo n Q pc ls st h := by
  obtain ⟨hx, hb, hml, hown, hts, hKK, hBg, hGo, hfr, hlo⟩ := id Cx
  subst hn
  intro H locs lsA ho hs hP hS hL
  obtain ⟨⟨as, u⟩, htk, hk2⟩ := xcl_i hk
  obtain ⟨hfit, hk3⟩ := xgd_i hk2
  obtain ⟨⟨w, h'⟩, hw, hk4⟩ := xbd_i hk3
  obtain ⟨t, e1, e2, e3⟩ := xtk_eq _ _ _ _ htk
  have e1 : st = t ++ u := e1
  have e2 : as = t.reverse := by simpa using e2
  have hsu : xoks lo n u := fun x hx => hs x (by rw [e1]; exact List.mem_append_right _ hx)
  have hsa : xoks lo n as := fun x hx => hs x (by rw [e1, e2] at *; exact List.mem_append_left _ (List.mem_reverse.mp hx))
  have hM := hcl as h w h' hw hsa
  obtain ⟨m1, m2, m3, m4, m5, m6⟩ := hy
  rw [hst] at m3 m5
  have m5 : Cond.static y.1 ∈ xTs := m5
  have hlen : as.length = b := by rw [e2, List.length_reverse, e3]
  have est : st.map (xcv G) = (as.map (xcv G)).reverse ++ u.map (xcv G) := by
    rw [e1, e2, List.map_append, List.map_reverse, List.reverse_reverse]
  rw [est]
  have hcw := va_cwS (R := R) (own := own) (index := v) (y := y.1) (mc := 0) (ms := 0) (rm := rm) as.length hts (xTs_good (L := va_wsS own v y.1 (xWs y)) (by
    intro z hz
    simp only [va_wsS, List.cons_append, List.nil_append, List.mem_cons] at hz
    rcases hz with q | q | q | q | q
    · rw [q]; exact hlk
    · rw [q]; exact m5
    · rw [q]; exact m4
    · rw [q]; exact m1
    · exact q)) rfl hrm.1 hrm.2.1 ⟨m2.1, m2.2, by rw [m3]; simp only [if_true]; congr 1; omega⟩ ⟨hrm.2.2.1, by have := hrm.2.2.2; omega⟩
  have hrun := va_runS (p := p) (l := l) (e := e) (below := below) (meth := meth) (H := H) (locs := locs) (cells := 0) (slots := 0) (As := as.map (xcv G)) (rest := u.map (xcv G)) (g := F0 m pc lsA ((as.map (xcv G)).reverse ++ u.map (xcv G))) ⟨hx, hb, hml, hown, hts⟩ hM hcw ⟨xPre_blind, fun U hU hW => ⟨rfl, by rw [hU]; exact hP, va_K.moved hW.alike hKK, xBg_to hBg hS hU hW⟩⟩ rfl (List.length_map ..) hL.1 rfl (lv_room (xfit_sum 4 u hfit)) hd ⟨Nat.zero_le _, Nat.zero_le _⟩
  exact xcall_go Cx K hc hk4 ho hsu hS hL hrun
theorem xj_invSN (Cx : xCx p R s m args c own cc nL G lo n tg) (K : ∀ pc ls st h, k pc ls st h = some r → xJ p l e R s m args below meth c nL G lo n Q pc ls st h) {a b cb v : Nat} {rm : Room} {y : xMi} {cl : Nat → List xV → xH → xO} (hcl : ∀ as h v h', cl a as h = some (v, h') → xoks lo n as → xMet l G lo n tg rm y as h v h') (hrm : xRm R rm) (hy : xmOK y) (hlk : own = RX8 ∧ v = 36 ∧ y.1 = yX11_isWithin) (hst : y.2.2.2.2.1 = true) (hbn : b = y.2.2.2.2.2) (hc : if cb = 0 then y.2.2.2.1 = none else y.2.2.2.1 ≠ none) (hd : decode cc pc = .ok (.invokestatic v, 3)) (hn : nx = pc + 3) (hk : (xcl (xtk b [] st) fun as st => xgd (xfit 4 st) (xbd (cl a as h) fun r h => k nx ls (bif Nat.beq cb 0 then st else xI r :: st) h)) = some r) : xJ p l e R s m args below meth c nL G lo n Q pc ls st h := by
  obtain ⟨hx, hb, hml, hown, hts, hKK, hBg, hGo, hfr, hlo⟩ := id Cx
  subst hn
  intro H locs lsA ho hs hP hS hL
  obtain ⟨⟨as, u⟩, htk, hk2⟩ := xcl_i hk
  obtain ⟨hfit, hk3⟩ := xgd_i hk2
  obtain ⟨⟨w, h'⟩, hw, hk4⟩ := xbd_i hk3
  obtain ⟨t, e1, e2, e3⟩ := xtk_eq _ _ _ _ htk
  have e1 : st = t ++ u := e1
  have e2 : as = t.reverse := by simpa using e2
  have hsu : xoks lo n u := fun x hx => hs x (by rw [e1]; exact List.mem_append_right _ hx)
  have hsa : xoks lo n as := fun x hx => hs x (by rw [e1, e2] at *; exact List.mem_append_left _ (List.mem_reverse.mp hx))
  have hM := hcl as h w h' hw hsa
  obtain ⟨m1, m2, m3, m4, m5, m6⟩ := hy
  rw [hst] at m3 m5
  have m5 : Cond.static y.1 ∈ xTs := m5
  have hlen : as.length = b := by rw [e2, List.length_reverse, e3]
  have est : st.map (xcv G) = (as.map (xcv G)).reverse ++ u.map (xcv G) := by
    rw [e1, e2, List.map_append, List.map_reverse, List.reverse_reverse]
  rw [est]
  have hNw : va_Nw (.methodLinkNest own v y.1 "DeadStick") s := by rw [hlk.1, hlk.2.1, hlk.2.2]; exact hBg.2.2.2.2.2.2
  have hcw := va_cnB (R := R) (own := own) (host := "DeadStick") (index := v) (y := y.1) (mc := 0) (ms := 0) (rm := rm) as.length hts (xTs_good (L := xWs y) (by
    intro z hz
    rcases List.mem_cons.mp hz with q | q
    · rw [q]; exact m1
    · exact q)) rfl hrm.1 hrm.2.1 hNw (hts _ m4) ⟨m2.1, m2.2, by rw [m3]; simp only [if_true]; congr 1; omega⟩ ⟨hrm.2.2.1, by have := hrm.2.2.2; omega⟩
  have hrun := va_runSN (p := p) (l := l) (e := e) (below := below) (meth := meth) (H := H) (locs := locs) (cells := 0) (slots := 0) (As := as.map (xcv G)) (rest := u.map (xcv G)) (g := F0 m pc lsA ((as.map (xcv G)).reverse ++ u.map (xcv G))) ⟨hx, hb, hml, hown, hts⟩ hM ⟨hcw, hts _ m5, trivial⟩ ⟨xPre_blind, fun U hU hW => ⟨rfl, by rw [hU]; exact hP, va_K.moved hW.alike hKK, xBg_to hBg hS hU hW⟩⟩ rfl (List.length_map ..) hL.1 rfl (lv_room (xfit_sum 4 u hfit)) hd ⟨Nat.zero_le _, Nat.zero_le _⟩
  exact xcall_go Cx K hc hk4 ho hsu hS hL hrun
theorem xj_mmax (Cx : xCx p R s m args c own cc nL G lo n tg) (K : ∀ pc ls st h, k pc ls st h = some r → xJ p l e R s m args below meth c nL G lo n Q pc ls st h) {v : Nat} (hl : Cond.methodLink own v Lib.Math.max.name ∈ xTs) (hl2 : Cond.static Lib.Math.max.name ∈ xTs) (hl3 : Cond.initialized "java/lang/Math" ∈ xTs) (hl4 : Cond.code Lib.Math.max.name Lib.Math.max.code 2 (some .int) ∈ xTs) (hd : decode cc pc = .ok (.invokestatic v, 3)) (hn : nx = pc + 3) (hk : (xs2 st fun y x st => xgd (xfit 4 st) (k nx ls (xI (if x < y then y else x) :: st) h)) = some r) : xJ p l e R s m args below meth c nL G lo n Q pc ls st h := by
  obtain ⟨hx, hb, hml, hown, hts, hKK, hBg, hGo, hfr, hlo⟩ := id Cx
  subst hn
  intro H locs lsA ho hs hP hS hL
  obtain ⟨y, x, u, hst, hk2⟩ := xs2_i hk
  subst hst
  obtain ⟨hfit, hk3⟩ := xgd_i hk2
  have hsum := xfit_sum (G := G) 4 u hfit
  exact va_mmax hx hb (hml.trans hL.1.symm) hown (hts _ hl) (hts _ hl2) (hts _ hl3) (hts _ hl4) hfr (by omega) (Nat.zero_le _) (Nat.zero_le _) hd (K _ _ _ _ hk3 H locs lsA ho (xoks_I (xoks_t (xoks_t hs))) hP hS hL)
theorem xj_mmin (Cx : xCx p R s m args c own cc nL G lo n tg) (K : ∀ pc ls st h, k pc ls st h = some r → xJ p l e R s m args below meth c nL G lo n Q pc ls st h) {v : Nat} (hl : Cond.methodLink own v Lib.Math.min.name ∈ xTs) (hl2 : Cond.static Lib.Math.min.name ∈ xTs) (hl3 : Cond.initialized "java/lang/Math" ∈ xTs) (hl4 : Cond.code Lib.Math.min.name Lib.Math.min.code 2 (some .int) ∈ xTs) (hd : decode cc pc = .ok (.invokestatic v, 3)) (hn : nx = pc + 3) (hk : (xs2 st fun y x st => xgd (xfit 4 st) (k nx ls (xI (if y < x then y else x) :: st) h)) = some r) : xJ p l e R s m args below meth c nL G lo n Q pc ls st h := by
  obtain ⟨hx, hb, hml, hown, hts, hKK, hBg, hGo, hfr, hlo⟩ := id Cx
  subst hn
  intro H locs lsA ho hs hP hS hL
  obtain ⟨y, x, u, hst, hk2⟩ := xs2_i hk
  subst hst
  obtain ⟨hfit, hk3⟩ := xgd_i hk2
  have hsum := xfit_sum (G := G) 4 u hfit
  exact va_mmin hx hb (hml.trans hL.1.symm) hown (hts _ hl) (hts _ hl2) (hts _ hl3) (hts _ hl4) hfr (by omega) (Nat.zero_le _) (Nat.zero_le _) hd (K _ _ _ _ hk3 H locs lsA ho (xoks_I (xoks_t (xoks_t hs))) hP hS hL)
theorem xj_copy (Cx : xCx p R s m args c own cc nL G lo n tg) (K : ∀ pc ls st h, k pc ls st h = some r → xJ p l e R s m args below meth c nL G lo n Q pc ls st h) {v : Nat} (hl : Cond.methodLink own v arraycopyName ∈ xTs) (hl2 : Cond.native arraycopyName ∈ xTs) (hl3 : Cond.static arraycopyName ∈ xTs) (hl4 : Cond.initialized "java/lang/System" ∈ xTs) (hd : decode cc pc = .ok (.invokestatic v, 3)) (hn : nx = pc + 3) (hk : (xsCp st fun n e t1 o1 g t0 o0 st => xgd (Nat.beq t0 1 && (Nat.beq t1 1 && xfit 4 st)) (if g < 0 ∨ e < 0 ∨ n < 0 ∨ lenX o0 < g.toNatClampNeg + n.toNatClampNeg ∨ lenX o1 < e.toNatClampNeg + n.toNatClampNeg then none else k nx ls st (xcp h o0 g.toNatClampNeg o1 e.toNatClampNeg n.toNatClampNeg))) = some r) : xJ p l e R s m args below meth c nL G lo n Q pc ls st h := by
  obtain ⟨hx, hb, hml, hown, hts, hKK, hBg, hGo, hfr, hlo⟩ := id Cx
  subst hn
  intro H locs lsA ho hs hP hS hL
  obtain ⟨w, f, t1, o1, g, t0, o0, u, hst, hk2⟩ := xsCp_i hk
  subst hst
  obtain ⟨hg, hk3⟩ := xgd_i hk2
  rw [Bool.and_eq_true, Bool.and_eq_true] at hg
  obtain ⟨hg0, hg1, hfit⟩ := hg
  have e0 := xb_t hg0
  have e1 := xb_t hg1
  subst e0
  subst e1
  by_cases hcn : g < 0 ∨ f < 0 ∨ w < 0 ∨ lenX o0 < g.toNatClampNeg + w.toNatClampNeg ∨ lenX o1 < f.toNatClampNeg + w.toNatClampNeg
  · rw [if_pos hcn] at hk3; cases hk3
  · rw [if_neg hcn] at hk3
    have hsum := xfit_sum (G := G) 4 u hfit
    have hs2 := xoks_t (xoks_t hs)
    have hs4 := xoks_t (xoks_t hs2)
    obtain ⟨r1, r2, r3⟩ := xrf_in (xoks_c.mp hs2).1 (by omega) (by omega) (by omega) (by omega)
    obtain ⟨q1, q2, q3⟩ := xrf_in (xoks_c.mp hs4).1 (by omega) (by omega) (by omega) (by omega)
    have hat1 := xwd_at G h r1 r2
    have hat0 := xwd_at G h q1 q2
    rw [xen_ar (Or.inl r3), r3] at hat1
    rw [xen_ar (Or.inl q3), q3] at hat0
    obtain ⟨ti, hti⟩ := xtys_at (G := G) ((hGo.2.2 o1 r1 r2).2.1 (by omega))
    have hti : (xtys G tg)[ti]? = some (gcl G 1, .int) := by rw [hti, r3]; rfl
    have hnf : nativeFrameWords "java/lang/System" "arraycopy" 5 + 11 ≤ 52 := by decide +kernel
    have hroom : ((u.map (xcv G)).map fun v => v.category).sum + (nativeFrameWords "java/lang/System" "arraycopy" 5 + 11) ≤ R.locals := by omega
    refine va_copyi (ty := .int) hx hb (hml.trans hL.1.symm) hown (hts _ hl) (hts _ hl2) (hts _ hl3) (hts _ hl4) hKK hP (xGo_D hGo h) hS (o0 - lo) (o1 - lo) ti ti hat0 hat1 hti hti rfl (fun z => hcn (Or.inl z)) (fun z => hcn (Or.inr (Or.inl z))) (fun z => hcn (Or.inr (Or.inr (Or.inl z)))) (Nat.not_lt.mp fun z => hcn (Or.inr (Or.inr (Or.inr (Or.inl z))))) (Nat.not_lt.mp fun z => hcn (Or.inr (Or.inr (Or.inr (Or.inr z))))) (fun _ _ => rfl) hfr hroom hd (fun H1 locs1 hP1 _ hS1 => ?_)
    have e : xen G (xcp h o0 g.toNatClampNeg o1 f.toNatClampNeg w.toNatClampNeg) o1 = .inl (gcl G 1, (lenX o1, .inl (va_cpy (h o0) (h o1) g.toNatClampNeg f.toNatClampNeg w.toNatClampNeg))) := by
      rw [xen_ar (Or.inl r3), r3]
      congr 4
      funext j
      simp [xcp, va_cpy]
    rw [← e, xwd_set G r1 r2 (fun p hp => xcp_o hp)] at hP1
    exact K _ _ _ _ hk3 H1 locs1 lsA ho (xoks_t hs4) hP1 hS1 hL
end
