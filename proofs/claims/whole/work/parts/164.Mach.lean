/-! A call of the pure machine from a frame that holds more cells -/
theorem n_joinL {A0 : Nat → Prop} {D : va_G} {X w0 w1 : va_W} {H H1 : Heap} (hP : va_P D clX (X ++ w0) H) (hD : va_D A0 (X ++ w0)) (hk : ∀ q : Nat, q < H.size → ¬ va_A w0 H.size q → H1[q]? = H[q]?) (hF : ∀ q, va_A w0 H.size q → A0 q) (hP1 : va_P D clX w1 H1) (hD1 : va_D (va_A w0 H.size) w1) : va_P D clX (X ++ w1) H1 ∧ va_D A0 (X ++ w1) := by
  refine va_join (wc := w0) hP hD (List.range' X.length w0.length) (List.range' 0 X.length) ?_ ?_ (n_nd _ _) ?_ hk hF hP1 hD1
  · apply List.ext_getElem?
    intro i
    by_cases hi : i < w0.length
    · simp [hi, List.getElem?_range']
    · have h1 : (List.map (fun i => (X ++ w0)[i]?) (List.range' X.length w0.length)).length ≤ i := by simp; omega
      have h2 : (w0.map some).length ≤ i := by simp; omega
      rw [List.getElem?_eq_none h1, List.getElem?_eq_none h2]
  · apply List.ext_getElem?
    intro i
    by_cases hi : i < X.length
    · simp [hi, List.getElem?_range', List.getElem?_append_left hi]
    · have h1 : (List.map (fun i => (X ++ w0)[i]?) (List.range' 0 X.length)).length ≤ i := by simp; omega
      have h2 : (X.map some).length ≤ i := by simp; omega
      rw [List.getElem?_eq_none h1, List.getElem?_eq_none h2]
  · intro i hi
    simp only [List.mem_range'_1] at hi ⊢
    omega
theorem n_lastP {D : va_G} {X w0 : va_W} {H : Heap} (hP : va_P D clX (X ++ w0) H) : va_P D clX w0 H := fun k q hq => hP (X.length + k) q (by rw [List.getElem?_append_right (by omega)]; simpa using hq)
theorem n_firstP {D : va_G} {X w0 : va_W} {H : Heap} (hP : va_P D clX (X ++ w0) H) : va_P D clX X H := fun k q hq => hP k q (by rw [List.getElem?_append_left (List.getElem?_eq_some_iff.mp hq).1]; exact hq)
theorem n_lastD {A : Nat → Prop} {X w0 : va_W} (hD : va_D A (X ++ w0)) : va_D A w0 := by
  have e : ∀ (k : Nat) (q : Nat × va_E), w0[k]? = some q → (X ++ w0)[X.length + k]? = some q := fun k q hq => by rw [List.getElem?_append_right (by omega)]; simpa using hq
  refine ⟨fun i j p q hp hq hpq => ?_, fun k q hq => hD.2 _ q (e k q hq)⟩
  have := hD.1 _ _ p q (e i p hp) (e j q hq) hpq
  omega
theorem n_firstD {A : Nat → Prop} {X w0 : va_W} (hD : va_D A (X ++ w0)) : va_D A X := by
  have e : ∀ (k : Nat) (q : Nat × va_E), X[k]? = some q → (X ++ w0)[k]? = some q := fun k q hq => by rw [List.getElem?_append_left (List.getElem?_eq_some_iff.mp hq).1]; exact hq
  exact ⟨fun i j p q hp hq hpq => hD.1 _ _ p q (e i p hp) (e j q hq) hpq, fun k q hq => hD.2 _ q (e k q hq)⟩
theorem n_swapP {D : va_G} {X Y : va_W} {H : Heap} (hP : va_P D clX (X ++ Y) H) : va_P D clX (Y ++ X) H := va_P.app (n_lastP hP) (n_firstP hP)
theorem n_swapD {A : Nat → Prop} {X Y : va_W} (hD : va_D A (X ++ Y)) : va_D A (Y ++ X) := by
  refine va_D.app (n_lastD hD) (n_firstD hD) (fun i j p q hp hq hpq => ?_)
  have h1 : (X ++ Y)[X.length + i]? = some p := by rw [List.getElem?_append_right (by omega)]; simpa using hp
  have h2 : (X ++ Y)[j]? = some q := by rw [List.getElem?_append_left (List.getElem?_eq_some_iff.mp hq).1]; exact hq
  have h3 := hD.1 _ _ p q h1 h2 hpq
  have h4 := (List.getElem?_eq_some_iff.mp hq).1
  omega
theorem xBg_narrow {G : xG} {A B : Nat → Prop} {s : State} (hB : xBg G A s) (hAB : ∀ q, B q → A q) : xBg G B s := by
  obtain ⟨h1, h2, h3, h4, h5, h6, h7⟩ := hB
  exact ⟨fun i hi => (h1 i hi).narrow hAB, fun i hi => (h2 i hi).narrow hAB, h3.narrow hAB, h4.narrow hAB, fun i hi => ⟨(h5 i hi).1.narrow hAB, (h5 i hi).2.1.narrow hAB, (h5 i hi).2.2.1.narrow hAB, (h5 i hi).2.2.2.narrow hAB⟩, h6, h7⟩
theorem n_xA {G : xG} {lo n : Nat} {h : xH} {A : Nat → Prop} {X : va_W} (hD : va_D A (X ++ xwd G lo n h)) : ∀ q, xA G lo n q → A q := by
  rintro q ⟨i, hi, rfl⟩
  have := xwd_at G (lo := lo) (n := n) (o := lo + i) h (by omega) (by omega)
  exact (n_lastD hD).2 _ _ this
section
variable {p : Program} {l : Launch} {e : Env} {R : Room} {s : State} {m : MethodId} {args : Array Value} {below : List Frame} {meth : Method} {c : Code} {H : Heap} {locs : List Loc} {cells slots : Nat} {Q : State → Prop} {cc : ByteArray} {nL : Nat} {own : String} {G : xG} {lo n : Nat} {tg : List Nat} {A : Nat → Prop} {tys : List (ClassId × FieldType)} {X : va_W} {pc : Nat} {ls : Array Slot} {rest : List Value} {h h' : xH} {d j : Nat} {y : xMi} {o t : Nat} {as : List xV} {v : Int32} {index : Nat}
theorem n_mrun (hx : p.tables.exec = Jvm.exec) (hb : c.code = cc) (hml : c.maxLocals = nL) (hown : s.vm.findClass own = some m.cls) (hts : ∀ w ∈ xTs, w.before args s = true) (hK : va_K (gD G) clX (xtys G tg) s) (hBg : xBg G A s) (hGo : xGo G lo n tg) (hP : va_P (gD G) clX (X ++ xwd G lo n h) H) (hD : va_D A (X ++ xwd G lo n h)) (hS : va_S A s.heap H locs)
    (hy : xat xmi j = some y) (hst : y.2.2.2.2.1 = false) (hc : cM d j (xR t o :: as) h = some (v, h')) (hok : xoks lo n (xR t o :: as)) (hq : ∃ q, xat clX (t - 16) = some q ∧ q.1 = y.1.cls) (ht : 16 ≤ t) (hl : Cond.methodLink own index y.1 ∈ xTs) (hR : (xrm d).frames + 1 ≤ R.frames ∧ (xrm d).locals + 60 ≤ R.locals) (hlen : as.length + 1 = y.2.2.2.2.2) (hls : ls.size = nL) (hrest : (rest.map fun v => v.category).sum ≤ 8) (hf : cells ≤ R.cells ∧ slots ≤ R.slots) (hdg : decode cc pc = .ok (.invokevirtual index, 3)) :
    va_Run p l e R s m args below meth c H locs cells slots 0 0 (F0 m pc ls ((as.map (xcv G)).reverse ++ .ref (gad G o) :: rest)) rest (xPost G lo n y.2.2.2.1 v h' (.ref (gad G o) :: as.map (xcv G)).toArray) (xA G lo n) := by
  obtain ⟨m1, m2, m3, m4, m5, m6⟩ := (xk_ok hy).1
  rw [hst] at m3 m5
  have m5 : Cond.instanceMethod y.1 ∈ xTs ∧ Cond.selects y.1.cls y.1 y.1 ∈ xTs := m5
  have hM := xM_sound _ l hGo d j y hy _ _ _ _ hc hok
  have hM : Met l y.1 (xWs y) (xrm d) (va_Pc ((xR t o :: as).map (xcv G)) (xPre G lo n tg h)) (xPost G lo n y.2.2.2.1 v h') 0 0 (xA G lo n) := hM
  have e0 : (xR t o :: as).map (xcv G) = .ref (gad G o) :: as.map (xcv G) := by
    rw [List.map_cons, xcv_R (by omega), xadr_ad (by omega) (by omega) (by omega)]
  rw [e0] at hM
  have hPl := n_lastP hP
  obtain ⟨q, q2, q3⟩ := hq
  obtain ⟨r1, r2, r3⟩ := xrf_in (t := t) (o := o) (hok (xR t o) List.mem_cons_self) (by omega) (by omega) (by omega) (by omega)
  have hat := xwd_at G h r1 r2
  rw [xen_obj (by omega), r3] at hat
  have hrecv : ∃ cell : Cell, H[gad G o]? = some cell ∧ cell.vm.isStatics = false ∧ s.vm.findClass y.1.cls = some cell.cls := by
    rw [← q3]
    exact va_recv hK hPl (clX_ok _ _ q2).2.2.2.1 hat
  have hcw := cwV (R := R) (own := own) (index := index) (C := y.1.cls) (y := y.1) (mc := 0) (ms := 0) (rm := xrm d) as.length hts (xTs_good (L := wsV own index y.1.cls y.1 (xWs y)) (by
    intro z hz
    simp only [wsV, List.cons_append, List.nil_append, List.mem_cons] at hz
    rcases hz with q | q | q | q | q | q
    · rw [q]; exact hl
    · rw [q]; exact m5.1
    · rw [q]; exact m5.2
    · rw [q]; exact m4
    · rw [q]; exact m1
    · exact q)) rfl rfl rfl ⟨rfl, m2.1, m2.2, by rw [m3]; simp only [Bool.false_eq_true, if_false]; congr 1; omega⟩ ⟨hR.1, by have := hR.2; omega⟩
  exact va_runV (p := p) (l := l) (e := e) (below := below) (meth := meth) (H := H) (locs := locs) (cells := cells) (slots := slots) (b := gad G o) (As := as.map (xcv G)) (rest := rest) (g := F0 m pc ls ((as.map (xcv G)).reverse ++ .ref (gad G o) :: rest)) ⟨hx, hb, hml, hown, hts⟩ hM hcw ⟨xPre_blind, hrecv, fun U hU hW => ⟨rfl, by rw [hU]; exact hPl, va_K.moved hW.alike hK, xBg_narrow (xBg_to hBg hS hU hW) (n_xA hD)⟩⟩ rfl (List.length_map ..) hls rfl (lv_room hrest) hdg hf
theorem n_mjoin (hGo : xGo G lo n tg) (hP : va_P (gD G) clX (X ++ xwd G lo n h) H) (hD : va_D A (X ++ xwd G lo n h)) {H1 : Heap} (hk : ∀ q : Nat, q < H.size → ¬ xA G lo n q → H1[q]? = H[q]?) (hA : ∀ q, H.size ≤ q → A q) (hP1 : va_P (gD G) clX (xwd G lo n h') H1) : va_P (gD G) clX (X ++ xwd G lo n h') H1 ∧ va_D A (X ++ xwd G lo n h') := by
  have e : ∀ q, xA G lo n q → va_A (xwd G lo n h) H.size q := by
    rintro q ⟨i, hi, rfl⟩
    have := xwd_at G (lo := lo) (n := n) (o := lo + i) h (by omega) (by omega)
    exact va_A.in this
  refine n_joinL hP hD (fun q h1 h2 => hk q h1 (fun z => h2 (e q z))) ?_ hP1 ((xGo_D hGo h').weaken (fun k q _ z => e _ z))
  intro q hq
  rcases hq with ⟨k, z, hz⟩ | hz
  · exact (n_lastD hD).2 k _ hz
  · exact hA q hz
theorem n_machI (hx : p.tables.exec = Jvm.exec) (hb : c.code = cc) (hml : c.maxLocals = nL) (hown : s.vm.findClass own = some m.cls) (hts : ∀ w ∈ xTs, w.before args s = true) (hK : va_K (gD G) clX (xtys G tg) s) (hBg : xBg G A s) (hGo : xGo G lo n tg) (hA : ∀ q, s.heap.size ≤ q → A q) (hP : va_P (gD G) clX (X ++ xwd G lo n h) H) (hD : va_D A (X ++ xwd G lo n h)) (hS : va_S A s.heap H locs)
    (hy : xat xmi j = some y) (hst : y.2.2.2.2.1 = false) (hc : cM d j (xR t o :: as) h = some (v, h')) (hok : xoks lo n (xR t o :: as)) (hq : ∃ q, xat clX (t - 16) = some q ∧ q.1 = y.1.cls) (ht : 16 ≤ t) (hl : Cond.methodLink own index y.1 ∈ xTs) (hR : (xrm d).frames + 1 ≤ R.frames ∧ (xrm d).locals + 60 ≤ R.locals) (hlen : as.length + 1 = y.2.2.2.2.2) (hls : ls.size = nL) (hrest : (rest.map fun v => v.category).sum ≤ 8) (hf : cells ≤ R.cells ∧ slots ≤ R.slots) (hdg : decode cc pc = .ok (.invokevirtual index, 3)) {ty : FieldType} (hret : y.2.2.2.1 = some ty)
    (kk : ∀ (H1 : Heap) (locs1 : List Loc), va_P (gD G) clX (X ++ xwd G lo n h') H1 → va_D A (X ++ xwd G lo n h') → va_S A s.heap H1 locs1 → W p l e R s m args below meth c H1 locs1 cells slots Q (F0 m (pc + 3) ls (.int v :: rest))) : W p l e R s m args below meth c H locs cells slots Q (F0 m pc ls ((as.map (xcv G)).reverse ++ .ref (gad G o) :: rest)) := by
  have hr := n_mrun (rest := rest) (meth := meth) (l := l) (e := e) (p := p) (below := below) (ls := ls) (pc := pc) hx hb hml hown hts hK hBg hGo hP hD hS hy hst hc hok hq ht hl hR hlen hls hrest hf hdg
  rw [hret] at hr
  refine va_calli (a := (.ref (gad G o) :: as.map (xcv G)).toArray) (A1 := xA G lo n) hr hS (fun q _ z => n_xA hD q z) (fun q z => n_xA hD q z) (fun q _ t H1 locs1 ht hvm hq hB _ hk1 hS1 => ?_)
  have hq : q = v := hq
  subst hq
  rw [ht] at hB
  obtain ⟨a1, a2⟩ := n_mjoin (h' := h') hGo hP hD hk1 (fun q z => hA q (Nat.le_trans hS.1 z)) hB
  exact kk H1 locs1 a1 a2 hS1
theorem n_machV (hx : p.tables.exec = Jvm.exec) (hb : c.code = cc) (hml : c.maxLocals = nL) (hown : s.vm.findClass own = some m.cls) (hts : ∀ w ∈ xTs, w.before args s = true) (hK : va_K (gD G) clX (xtys G tg) s) (hBg : xBg G A s) (hGo : xGo G lo n tg) (hA : ∀ q, s.heap.size ≤ q → A q) (hP : va_P (gD G) clX (X ++ xwd G lo n h) H) (hD : va_D A (X ++ xwd G lo n h)) (hS : va_S A s.heap H locs)
    (hy : xat xmi j = some y) (hst : y.2.2.2.2.1 = false) (hc : cM d j (xR t o :: as) h = some (v, h')) (hok : xoks lo n (xR t o :: as)) (hq : ∃ q, xat clX (t - 16) = some q ∧ q.1 = y.1.cls) (ht : 16 ≤ t) (hl : Cond.methodLink own index y.1 ∈ xTs) (hR : (xrm d).frames + 1 ≤ R.frames ∧ (xrm d).locals + 60 ≤ R.locals) (hlen : as.length + 1 = y.2.2.2.2.2) (hls : ls.size = nL) (hrest : (rest.map fun v => v.category).sum ≤ 8) (hf : cells ≤ R.cells ∧ slots ≤ R.slots) (hdg : decode cc pc = .ok (.invokevirtual index, 3)) (hret : y.2.2.2.1 = none)
    (kk : ∀ (H1 : Heap) (locs1 : List Loc), va_P (gD G) clX (X ++ xwd G lo n h') H1 → va_D A (X ++ xwd G lo n h') → va_S A s.heap H1 locs1 → W p l e R s m args below meth c H1 locs1 cells slots Q (F0 m (pc + 3) ls rest)) : W p l e R s m args below meth c H locs cells slots Q (F0 m pc ls ((as.map (xcv G)).reverse ++ .ref (gad G o) :: rest)) := by
  have hr := n_mrun (rest := rest) (meth := meth) (l := l) (e := e) (p := p) (below := below) (ls := ls) (pc := pc) hx hb hml hown hts hK hBg hGo hP hD hS hy hst hc hok hq ht hl hR hlen hls hrest hf hdg
  rw [hret] at hr
  refine va_callv (a := (.ref (gad G o) :: as.map (xcv G)).toArray) (A1 := xA G lo n) hr hS (fun q _ z => n_xA hD q z) (fun q z => n_xA hD q z) (fun _ t H1 locs1 ht hvm _ hB _ hk1 hS1 => ?_)
  rw [ht] at hB
  obtain ⟨a1, a2⟩ := n_mjoin (h' := h') hGo hP hD hk1 (fun q z => hA q (Nat.le_trans hS.1 z)) hB
  exact kk H1 locs1 a1 a2 hS1
end
