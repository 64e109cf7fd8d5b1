/-! THE LAW, part 1: what its run stands on -/
/-! THE CLAIM OUT OF ONE WALK OF THE LAW'S BODY. Your part is whole_start (and what it stands on); all else here is the same for every law, but numbers. -/
def R_law : String := "DeadStickLaw"
def lw_P (b : Addr) (xs : List Int32) (args : Array Value) (s : State) : Prop := args = #[.ref b] ∧ s.IntsAt b xs ∧ xs.length ≤ 384 ∧ (Jvm.Cond.and given_1 narrow_1).before args s = true
def lw_Q (_ : Array Value) (s : State) (o : Outcome) (t : State) : Prop := o = .returned (some (.int 1)) ∧ Framed s o t [] 600000 7302250
def lw_Z (below : List Frame) (a : Array Value) (s : State) : State → Prop := fun t => ∃ o, t.status = .running ∧ Ended t below o ∧ lw_Q a s o t
/-- the law's own end, with 1 on the stack, nothing written that was there before, its room as the claim has it -/
theorem lw_ret {p : Program} {l : Launch} {e : Env} {s : State} {m : MethodId} {below : List Frame} {meth : Method} {c : Code} {b : Nat} (hx : p.tables.exec = Jvm.exec) (hb : c.code = code) (hr : meth.sig.returnType = ret) (hlocks : meth.locks = false) {pc : Nat} {H : Heap} {ls : Array Slot} (hdg : decode code pc = .ok (.ireturn, 1)) : W p l e room_1 s m #[Value.ref b] below meth c H [] 600000 7302250 (lw_Z below #[Value.ref b] s) (F0 m pc ls [.int 1]) := by
  intro T hT X
  obtain ⟨fs, hret, hrun, hended, hW, hframe⟩ := X.leave (v := some (.int 1)) (hlocks := hlocks) (fun h => by rw [hr] at h; cases h)
  have hmeth' : T.vm.method? m = some meth := X.method'
  refine ⟨T.setFrames fs, ?_, .returned (some (.int 1)), hrun, hended, rfl, ⟨_, rfl⟩, hW, hframe⟩
  jvm_step X.here [X.here.top, hx, hb, hdg, hmeth', hr, ret, narrow_b1]
  (try refine ⟨rfl, ?_⟩); (try refine ⟨rfl, ?_⟩)
  first | (intro acts; rw [hret _ acts rfl rfl rfl]) | rw [hret _ _ rfl rfl rfl]
  exact Steps.refl _
/-- what holds at the law's entry: the machine, the code, the tables' words (any of lw_tbl by 'hts w (by decide +kernel)'), the script of L ints xs at the cell b, what the Statement gives of the start (any of its parts by flat_of_before) -/
def lw_At (p : Program) (s : State) (m : MethodId) (meth : Method) (c : Code) (b L : Nat) (xs : Nat → Int32) : Prop :=
  p.tables.exec = Jvm.exec ∧ c.code = code ∧ meth.sig.returnType = ret ∧ c.maxLocals = 4 ∧ s.vm.findClass R_law = some m.cls ∧ (∀ w ∈ lw_tbl, w.before #[Value.ref b] s = true) ∧ va_X b L xs s s.heap ∧ b < s.heap.size ∧ meth.locks = false ∧ (Jvm.Cond.and given_1 narrow_1).before #[Value.ref b] s = true

section
variable {p : Program} {l : Launch} {e : Env} {s : State} {m : MethodId} {below : List Frame} {meth : Method} {c : Code} {H : Heap} {locs : List Loc} {cells slots : Nat} {Q : State → Prop} {G : xG} {b L i : Nat} {xs : Nat → Int32} {ls : Array Slot} {rest : List Value} {pc : Nat}
/-- what the law's run stands on -/
def nLw (p : Program) (s : State) (m : MethodId) (c : Code) (b L : Nat) (xs : Nat → Int32) (G : xG) : Prop := p.tables.exec = Jvm.exec ∧ c.code = code ∧ c.maxLocals = 4 ∧ s.vm.findClass R_law = some m.cls ∧ (∀ w ∈ xTs, w.before #[Value.ref b] s = true) ∧ va_X b L xs s s.heap ∧ b < s.heap.size ∧ va_K (gD G) clX (xtys G [1, 2, 6]) s ∧ va_K (gD G) clX (xtys G [1, 3, 7]) s ∧ xBg G (fun q => s.heap.size ≤ q) s ∧ xGo G 0 81 [1, 2, 6] ∧ xGo G 100 24 [1, 3, 7] ∧ L ≤ 384
/-- the law's world, the pure heap being h -/
def nWd (G : xG) (h : xH) : va_W := xwd G 0 81 h ++ xwd G 100 24 h
theorem xwd_c {G : xG} {lo n : Nat} {h h' : xH} (e : ∀ o, lo ≤ o → o < lo + n → h' o = h o) : xwd G lo n h' = xwd G lo n h := by
  unfold xwd
  apply List.map_congr_left
  intro i hi
  have := List.mem_range.mp hi
  rw [xen_c (e (lo + i) (by omega) (by omega))]
theorem n_cls (Cx : nLw p s m c b L xs G) {z z1 : zH} {r : Int} {j index : Nat} {y : xMi} {as : List xV} (hP : va_P (gD G) clX (nWd G (hI z)) H) (hD : va_D (fun q => s.heap.size ≤ q) (nWd G (hI z))) (hS : va_S (fun q => s.heap.size ≤ q) s.heap H locs) (hy : xat xmi j = some y) (hst : y.2.2.2.2.1 = false) (hc : cM 60 j (xR 27 0 :: as) (hI z) = some (zI r, hI z1)) (hok : xoks 0 81 as) (hcl : y.1.cls = RX11) (hl : Cond.methodLink R_law index y.1 ∈ xTs) (hlen : as.length + 1 = y.2.2.2.2.2) (hls : ls.size = 4) (hrest : (rest.map fun v => v.category).sum ≤ 8) (hf : cells ≤ room_1.cells ∧ slots ≤ room_1.slots) (hdg : decode code pc = .ok (.invokevirtual index, 3)) {ty : FieldType} (hret : y.2.2.2.1 = some ty)
    (kk : ∀ (H1 : Heap) (locs1 : List Loc), va_P (gD G) clX (nWd G (hI z1)) H1 → va_D (fun q => s.heap.size ≤ q) (nWd G (hI z1)) → va_S (fun q => s.heap.size ≤ q) s.heap H1 locs1 → W p l e room_1 s m #[Value.ref b] below meth c H1 locs1 cells slots Q (F0 m (pc + 3) ls (.int (zI r) :: rest))) : W p l e room_1 s m #[Value.ref b] below meth c H locs cells slots Q (F0 m pc ls ((as.map (xcv G)).reverse ++ .ref (gad G 0) :: rest)) := by
  obtain ⟨hx, hb, hml, hown, hts, hX, hbl, hK0, hK1, hBg, hG0, hG1, hL⟩ := Cx
  have hok' : xoks 0 81 (xR 27 0 :: as) := by
    intro v hv
    rcases List.mem_cons.mp hv with hv | hv
    · subst hv; exact Or.inr (Or.inr (Or.inr (Or.inr ⟨by decide, by decide, rfl, by decide, by decide, by decide⟩)))
    · exact hok v hv
  have hloc := xM_loc _ n_lay0 60 j y hy _ _ _ _ hc hok'
  have e1 : xwd G 100 24 (hI z1) = xwd G 100 24 (hI z) := xwd_c (fun o h1 h2 => hloc o (Or.inr (by omega)))
  refine n_machI (X := xwd G 100 24 (hI z)) (as := as) (o := 0) (t := 27) (h' := hI z1) hx hb hml hown hts hK0 hBg hG0 (fun _ h => h) (n_swapP hP) (n_swapD hD) hS hy hst hc hok' ⟨(RX11, TX11, 12), rfl, hcl.symm⟩ (by decide) hl ⟨by decide, by decide⟩ hlen hls hrest hf hdg hret (fun H locs hP hD hS => ?_)
  rw [← e1] at hP hD
  exact kk H locs (n_swapP hP) (n_swapD hD) hS
theorem n_mod (Cx : nLw p s m c b L xs G) {z z1 : zH} {r : Int} {j index : Nat} {y : xMi} {as : List xV} (hP : va_P (gD G) clX (nWd G (hI z)) H) (hD : va_D (fun q => s.heap.size ≤ q) (nWd G (hI z))) (hS : va_S (fun q => s.heap.size ≤ q) s.heap H locs) (hy : xat xmi j = some y) (hst : y.2.2.2.2.1 = false) (hc : cM 60 j (xR 28 100 :: as) (hI z) = some (zI r, hI z1)) (hok : xoks 100 24 as) (hcl : y.1.cls = RX12) (hl : Cond.methodLink R_law index y.1 ∈ xTs) (hlen : as.length + 1 = y.2.2.2.2.2) (hls : ls.size = 4) (hrest : (rest.map fun v => v.category).sum ≤ 8) (hf : cells ≤ room_1.cells ∧ slots ≤ room_1.slots) (hdg : decode code pc = .ok (.invokevirtual index, 3)) {ty : FieldType} (hret : y.2.2.2.1 = some ty)
    (kk : ∀ (H1 : Heap) (locs1 : List Loc), va_P (gD G) clX (nWd G (hI z1)) H1 → va_D (fun q => s.heap.size ≤ q) (nWd G (hI z1)) → va_S (fun q => s.heap.size ≤ q) s.heap H1 locs1 → W p l e room_1 s m #[Value.ref b] below meth c H1 locs1 cells slots Q (F0 m (pc + 3) ls (.int (zI r) :: rest))) : W p l e room_1 s m #[Value.ref b] below meth c H locs cells slots Q (F0 m pc ls ((as.map (xcv G)).reverse ++ .ref (gad G 100) :: rest)) := by
  obtain ⟨hx, hb, hml, hown, hts, hX, hbl, hK0, hK1, hBg, hG0, hG1, hL⟩ := Cx
  have hok' : xoks 100 24 (xR 28 100 :: as) := by
    intro v hv
    rcases List.mem_cons.mp hv with hv | hv
    · subst hv; exact Or.inr (Or.inr (Or.inr (Or.inr ⟨by decide, by decide, rfl, by decide, by decide, by decide⟩)))
    · exact hok v hv
  have hloc := xM_loc _ n_lay100 60 j y hy _ _ _ _ hc hok'
  have e1 : xwd G 0 81 (hI z1) = xwd G 0 81 (hI z) := xwd_c (fun o h1 h2 => hloc o (Or.inl (by omega)))
  refine n_machI (X := xwd G 0 81 (hI z)) (as := as) (o := 100) (t := 28) (h' := hI z1) hx hb hml hown hts hK1 hBg hG1 (fun _ h => h) hP hD hS hy hst hc hok' ⟨(RX12, TX12, 45), rfl, hcl.symm⟩ (by decide) hl ⟨by decide, by decide⟩ hlen hls hrest hf hdg hret (fun H locs hP hD hS => ?_)
  rw [← e1] at hP hD
  exact kk H locs hP hD hS
theorem n_cl (n : Nat) (h : n < 1000) : (nI n).toNatClampNeg = n := by
  have h1 : (nI n).toInt = (n : Int) := by
    show (Int32.ofNat n).toInt = _
    rw [Int32.toInt_ofNat_of_lt (by omega)]
  show (nI n).toInt.toNat = n
  rw [h1]
  rfl
/-- the script's int at i + k -/
theorem n_arg (Cx : nLw p s m c b L xs G) {x1 x2 : Value} (hl : lv_has ls 4 [(3, .int (nI i)), (2, x2), (1, x1), (0, .ref b)]) (k : Nat) (hk : i + k < L) (hS : va_S (fun q => s.heap.size ≤ q) s.heap H locs) (d1 : decode code pc = .ok (.aload_n 0, 1)) (d2 : decode code (pc + 1) = .ok (.iload_n 3, 1)) (d3 : decode code (pc + 1 + 1) = .ok (.iconst (k : Int), 1)) (d4 : decode code (pc + 1 + 1 + 1) = .ok (.iadd, 1)) (d5 : decode code (pc + 1 + 1 + 1 + 1) = .ok (.iaload, 1))
    (kk : W p l e room_1 s m #[Value.ref b] below meth c H locs cells slots Q (F0 m (pc + 1 + 1 + 1 + 1 + 1) ls (.int (zI (xs (i + k)).toInt) :: rest))) : W p l e room_1 s m #[Value.ref b] below meth c H locs cells slots Q (F0 m pc ls rest) := by
  obtain ⟨hx, hb, hml, hown, hts, hX, hbl, hK0, hK1, hBg, hG0, hG1, hL⟩ := Cx
  refine lv_aload_n hx hb d1 rfl (lv_at hl 3 rfl) ?_
  refine lv_iload_n hx hb d2 rfl (lv_at hl 0 rfl) ?_
  refine lv_iconst (v := nI k) hx hb d3 (Int32.ofInt_eq_ofNat ..) ?_
  refine lv_iadd hx hb d4 ?_
  have e : nI i + nI k = nI (i + k) := (Int32.ofNat_add i k).symm
  rw [e]
  have h1 : vp_in (nI (i + k)) L := vp_in_nI hk (by omega)
  refine va_sld hx hb hX hbl (Nat.not_le.mpr hbl) hS h1 d5 ?_
  rw [n_cl _ (by omega), ← zI_of (xs (i + k))]
  exact kk
end
