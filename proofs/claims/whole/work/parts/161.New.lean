/-! CONSTRUCTORS, part 1: what a constructor's state knows; one step each for its kinds of instruction -/
def nNs : List (String × Nat × String) := [("DeadStick", 9, RX10), ("DeadStick", 25, RX3), ("DeadStick", 32, RX2), ("DeadStick", 39, RX6), ("DeadStick", 46, RX9), ("DeadStick", 53, RX1), ("DeadStick", 60, RX0), ("DeadStick", 79, RX8), ("DeadStick$World", 11, RX5), ("DeadStick$World", 20, RX2), ("DeadStick$World", 42, RX4), ("DeadStick$Flight", 11, RX2), ("DeadStick$Text", 21, RX4)]
def nTy (gc : Nat → ClassId) : List (ClassId × FieldType) := [(gc 1, .int), (gc 2, .byte), (gc 3, .boolean)]
def nIn (D : va_G) (gc : Nat → ClassId) (U : State) : Prop := va_K D clX (nTy gc) U ∧ ∀ q ∈ nNs, va_Nw (.methodLinkNest q.1 q.2.1 ⟨q.2.2, "<init>", "()V"⟩ "DeadStick") U
theorem nIn_call {D : va_G} {gc : Nat → ClassId} {U : State} {g : JFrame} {mk : MethodId} {a : Array Value} (h : nIn D gc U) : nIn D gc (U.calling g mk a) :=
  ⟨va_K.moved (u := U) (U := U.calling g mk a) (Vm.Alike.refl U.vm) h.1, fun q hq => va_Nw.same (u := U) (U := U.calling g mk a) rfl rfl (h.2 q hq)⟩
theorem nIn_to {D : va_G} {gc : Nat → ClassId} {s U : State} (h : nIn D gc s) (hW : s.WarmedH U.vm) : nIn D gc U :=
  ⟨va_K.moved hW.alike h.1, fun q hq => (h.2 q hq).warmM hW⟩
/-- a constructor's contract: the blank object becomes the block of cells at some addresses f -/
def nMet (l : Launch) (D : va_G) (gc : Nat → ClassId) (y : MethodName) (Y : ByteArray) (ml : Nat) (rm : Room) (ci : Nat) (fs : List Value) (As : List Value) (mc ms : Nat) (B : (Nat → Nat) → va_W) : Prop :=
  ∀ a sz : Nat, Met l y (.code y Y ml none :: xTs) rm (va_Pc (.ref a :: As) (fun U => U.heap.size = sz ∧ va_P D clX [(a, .inr (ci, fs))] U.heap ∧ nIn D gc U ∧ va_D (fun _ => True) [(a, .inr (ci, fs))])) (va_Qv (fun f : Nat → Nat => f 0 = a) (fun f t => va_P D clX (B f) t.heap ∧ va_D (va_A [(a, .inr (ci, fs))] sz) (B f)) (va_A [(a, .inr (ci, fs))] sz)) mc ms (va_A [(a, .inr (ci, fs))] sz)
theorem n_nd : ∀ (k n : Nat), va_nd (List.range' k n) = true := by
  intro k n
  induction n generalizing k with
  | zero => rfl
  | succ n ih =>
    rw [List.range'_succ]
    unfold va_nd
    rw [ih]
    simp only [Bool.and_true, decide_eq_true_eq, List.mem_range'_1]
    omega
/-- behind a callee that owns the last cell only -/
theorem n_join {A0 : Nat → Prop} {D : va_G} {X w1 : va_W} {c0 : Nat × va_E} {H H1 : Heap} (hP : va_P D clX (X ++ [c0]) H) (hD : va_D A0 (X ++ [c0])) (hk : ∀ q : Nat, q < H.size → ¬ va_A [c0] H.size q → H1[q]? = H[q]?) (hF : ∀ q, va_A [c0] H.size q → A0 q) (hP1 : va_P D clX w1 H1) (hD1 : va_D (va_A [c0] H.size) w1) : va_P D clX (X ++ w1) H1 ∧ va_D A0 (X ++ w1) := by
  refine va_join (wc := [c0]) hP hD [X.length] (List.range' 0 X.length) ?_ ?_ (n_nd _ _) ?_ hk hF hP1 hD1
  · simp
  · apply List.ext_getElem?
    intro i
    by_cases hi : i < X.length
    · simp [hi, List.getElem?_range', List.getElem?_append_left hi]
    · have h1 : (List.map (fun i => (X ++ [c0])[i]?) (List.range' 0 X.length)).length ≤ i := by simp; omega
      have h2 : (X.map some).length ≤ i := by simp; omega
      rw [List.getElem?_eq_none h1, List.getElem?_eq_none h2]
  · intro i hi
    simp only [List.mem_range'_1] at hi
    simp only [List.mem_singleton]
    omega
theorem n_set {α : Type} (l : List α) (x y : α) : (l ++ [x]).set l.length y = l ++ [y] := by
  induction l with
  | nil => rfl
  | cons a l ih => exact congrArg (fun z => a :: z) ih
section
variable {p : Program} {l : Launch} {e : Env} {R : Room} {s : State} {m : MethodId} {args : Array Value} {below : List Frame} {meth : Method} {c : Code} {H : Heap} {H0 : Heap} {locs : List Loc} {cells slots : Nat} {Q : State → Prop} {cc : ByteArray} {nL : Nat} {own : String} {D : va_G} {A : Nat → Prop} {tys : List (ClassId × FieldType)} {W0 : va_W} {c0 : Nat × va_E} {pc : Nat} {ls : Array Slot} {rest : List Value} {gc : Nat → ClassId}
theorem n_put (hx : p.tables.exec = Jvm.exec) (hb : c.code = cc) (hts : ∀ w ∈ xTs, w.before args s = true) (hown : s.vm.findClass own = some m.cls) (hK : va_K D clX tys s) {a ci : Nat} {fs : List Value} (hP : va_P D clX ((a, .inr (ci, fs)) :: W0) H) (hD : va_D A ((a, .inr (ci, fs)) :: W0)) (hS : va_S A H0 H locs) {C : String} {T : u_T} {N : Nat} (hc : xat clX ci = some (C, T, N)) (k : Nat) (hk : k < N) {index : Nat} (hl : Cond.fieldLink own index (T k).1 (T k).2.1 (T k).2.2.1 ∈ xTs) (hfin : (T k).2.2.2 = false ∨ ((T k).2.2.2 = true ∧ meth.name = "<init>" ∧ (T k).1 = own)) {v : Value} (ty : FieldType) (hd : parseFieldDescriptor (T k).2.2.1 = some ty) (hn : narrow ty v = v) (hfit : fits ty v = true) (hlen : k < fs.length) (hdg : decode cc pc = .ok (.putfield index, 3))
    (kk : ∀ (H1 : Heap) (locs1 : List Loc), va_P D clX ((a, .inr (ci, fs.set k v)) :: W0) H1 → va_D A ((a, .inr (ci, fs.set k v)) :: W0) → va_S A H0 H1 locs1 → W p l e R s m args below meth c H1 locs1 cells slots Q (F0 m (pc + 3) ls rest)) : W p l e R s m args below meth c H locs cells slots Q (F0 m pc ls (v :: .ref a :: rest)) := by
  obtain ⟨c1, ⟨ty0, c2⟩, c3, c4, c5⟩ := clX_ok _ _ hc
  rcases hfin with hf | ⟨hf, hi, ho⟩
  · exact va_put hx hb hts c1 ty0 c2 c3 hown hK hP hD hS 0 rfl c4 k hk (hts _ hl) (fun _ z => z) hf hd hn hfit hlen hdg kk
  · exact va_putF hx hb hts c1 ty0 c2 c3 hown hK hP hD hS 0 rfl c4 k hk (hts _ hl) (fun _ z => z) hf hi ho hd hn hfit hlen hdg kk
/-- a field that is read -/
theorem n_get (hx : p.tables.exec = Jvm.exec) (hb : c.code = cc) (hts : ∀ w ∈ xTs, w.before args s = true) (hown : s.vm.findClass own = some m.cls) (hK : va_K D clX tys s) {a ci : Nat} {fs : List Value} (hP : va_P D clX ((a, .inr (ci, fs)) :: W0) H) {C : String} {T : u_T} {N : Nat} (hc : xat clX ci = some (C, T, N)) (k : Nat) (hk : k < N) {index : Nat} (hl : Cond.fieldLink own index (T k).1 (T k).2.1 (T k).2.2.1 ∈ xTs) {v : Value} (hv : fs[k]? = some v) (hdg : decode cc pc = .ok (.getfield index, 3))
    (kk : W p l e R s m args below meth c H locs cells slots Q (F0 m (pc + 3) ls (v :: rest))) : W p l e R s m args below meth c H locs cells slots Q (F0 m pc ls (.ref a :: rest)) := by
  obtain ⟨c1, -, c3, c4, c5⟩ := clX_ok _ _ hc
  exact va_get hx hb hts c1 hown hK hP 0 rfl c4 k hk (hts _ hl) (fun _ z => z) hv hdg kk
theorem n_newa (hx : p.tables.exec = Jvm.exec) (hb : c.code = cc) (hts : ∀ w ∈ xTs, w.before args s = true) (hK : va_K D clX tys s) (hP : va_P D clX (c0 :: W0) H) (hD : va_D A (c0 :: W0)) (hS : va_S A H0 H locs) (hA : ∀ q, H0.size ≤ q → A q) {atype : ArrayType} (harr : Cond.arrayClass (newarray.typeOf atype) ∈ xTs) {cA0 : ClassId} {ty : FieldType} (hty : newarray.typeOf atype = ty) (t0 : Nat) (ht : tys[t0]? = some (cA0, ty)) (hti : ty = .int ∨ ty = .byte ∨ ty = .boolean)
    {n : Int32} {N : Nat} (hn : ¬ n < 0) (hN : n.toNatClampNeg = N) (hbytes : N ≤ 100000) (hcells : cells + 1 ≤ R.cells) (hslots : slots + N ≤ R.slots) (hdg : decode cc pc = .ok (.newarray atype, 2))
    (kk : ∀ (q : Nat) (H1 : Heap), va_P D clX (c0 :: (W0 ++ [(q, .inl (cA0, (N, .inl (fun _ => 0))))])) H1 → va_D A (c0 :: (W0 ++ [(q, .inl (cA0, (N, .inl (fun _ => 0))))])) → va_S A H0 H1 locs →
      W p l e R s m args below meth c H1 locs (cells + 1) (slots + N) Q (F0 m (pc + 2) ls (.ref q :: rest))) : W p l e R s m args below meth c H locs cells slots Q (F0 m pc ls (.int n :: rest)) := by
  refine va_newa hx hb (hts _ harr) hty hK hP hD hS hA (a0 := (N, .inl (fun _ => 0))) (N' := N) ?_ hn hN ?_ hcells hslots hdg ?_
  · intro cA
    rcases hti with z | z | z <;> subst z <;> rfl
  · rcases hti with z | z | z <;> subst z <;> simp only [componentBytes] <;> omega
  · intro q cA H1 hK1 hP1 hD1 hS1
    have e1 := (hK1.2 tys.length (cA, ty) (by simp)).2
    have e2 := (hK.2 t0 _ ht).2
    have e : cA = cA0 := by
      rcases hti with z | z | z <;> subst z <;> exact Option.some.inj (e1.symm.trans e2)
    subst e
    exact kk q H1 hP1 hD1 hS1
theorem n_new (hx : p.tables.exec = Jvm.exec) (hb : c.code = cc) (hts : ∀ w ∈ xTs, w.before args s = true) (hown : s.vm.findClass own = some m.cls) (hK : va_K D clX tys s) (hP : va_P D clX (c0 :: W0) H) (hD : va_D A (c0 :: W0)) (hS : va_S A H0 H locs) (hA : ∀ q, H0.size ≤ q → A q) {ci : Nat} {C : String} {T : u_T} {N : Nat} (hc : xat clX ci = some (C, T, N)) {index : Nat} (hcl : Cond.classLink own index C ∈ xTs) (hinst : Cond.instantiable C N ∈ xTs) (hini : Cond.initialized C ∈ xTs) (fs : List Value) (ty : Nat → FieldType) (hty : ∀ k, k < N → parseFieldDescriptor (T k).2.2.1 = some (ty k)) (hfs : ∀ j, j < N → defaultValue (ty j) = vp_V fs j) (hcells : cells + 1 ≤ R.cells) (hslots : slots + N ≤ R.slots) (hdg : decode cc pc = .ok (.new index, 3))
    (kk : ∀ (q : Nat) (H1 : Heap), va_P D clX (c0 :: (W0 ++ [(q, .inr (ci, fs))])) H1 → va_D A (c0 :: (W0 ++ [(q, .inr (ci, fs))])) → va_S A H0 H1 locs →
      W p l e R s m args below meth c H1 locs (cells + 1) (slots + N) Q (F0 m (pc + 3) ls (.ref q :: rest))) : W p l e R s m args below meth c H locs cells slots Q (F0 m pc ls rest) := by
  obtain ⟨c1, -, c3, c4, c5⟩ := clX_ok _ _ hc
  exact va_new hx hb hts c1 ty hty hown (hts _ hcl) (hts _ hinst) (hts _ hini) hK hP hD hS hA c4 hfs hcells hslots hdg kk
/-- an int into the last array -/
theorem n_iast (hx : p.tables.exec = Jvm.exec) (hb : c.code = cc) (hK : va_K D clX tys s) {q : Nat} {cA : ClassId} {N : Nat} {f : Nat → Int32} (hP : va_P D clX (c0 :: (W0 ++ [(q, .inl (cA, (N, .inl f)))])) H) (hD : va_D A (c0 :: (W0 ++ [(q, .inl (cA, (N, .inl f)))]))) (hS : va_S A H0 H locs) (t0 : Nat) (ht : tys[t0]? = some (cA, .int)) {i x : Int32} (hin : vp_in i N) (hdg : decode cc pc = .ok (.iastore, 1))
    (kk : ∀ (H1 : Heap) (locs1 : List Loc), va_P D clX (c0 :: (W0 ++ [(q, .inl (cA, (N, .inl (upd f i.toNatClampNeg x))))])) H1 → va_D A (c0 :: (W0 ++ [(q, .inl (cA, (N, .inl (upd f i.toNatClampNeg x))))])) → va_S A H0 H1 locs1 → W p l e R s m args below meth c H1 locs1 cells slots Q (F0 m (pc + 1) ls rest)) : W p l e R s m args below meth c H locs cells slots Q (F0 m pc ls (.int x :: .int i :: .ref q :: rest)) := by
  refine va_iast hx hb hK hP hD hS (W0.length + 1) t0 (cA := cA) (n := N) (f := f) (by simp) ht hin hdg (fun H1 locs1 hP1 hD1 hS1 => ?_)
  have e : (c0 :: (W0 ++ [(q, .inl (cA, (N, .inl f)))])).set (W0.length + 1) (q, .inl (cA, (N, .inl (upd f i.toNatClampNeg x)))) = c0 :: (W0 ++ [(q, .inl (cA, (N, .inl (upd f i.toNatClampNeg x))))]) :=
    congrArg (fun z => c0 :: z) (n_set W0 _ _)
  rw [e] at hP1 hD1
  exact kk H1 locs1 hP1 hD1 hS1
/-- behind a constructor's run -/
theorem n_post {ci mc ms : Nat} {fs As : List Value} {B : (Nat → Nat) → va_W} {q : Nat} (hP : va_P D clX (c0 :: (W0 ++ [(q, .inr (ci, fs))])) H) (hD : va_D A (c0 :: (W0 ++ [(q, .inr (ci, fs))]))) (hS : va_S A H0 H locs) (hA : ∀ q, H0.size ≤ q → A q) {st0 : List Value}
    (hr : va_Run p l e R s m args below meth c H locs cells slots mc ms (F0 m pc ls st0) rest (va_Qv (fun f : Nat → Nat => f 0 = q) (fun f t => va_P D clX (B f) t.heap ∧ va_D (va_A [(q, .inr (ci, fs))] H.size) (B f)) (va_A [(q, .inr (ci, fs))] H.size) (Value.ref q :: As).toArray) (va_A [(q, .inr (ci, fs))] H.size))
    (kk : ∀ (f : Nat → Nat) (H1 : Heap) (locs1 : List Loc), f 0 = q → va_P D clX (c0 :: (W0 ++ B f)) H1 → va_D A (c0 :: (W0 ++ B f)) → va_S A H0 H1 locs1 → W p l e R s m args below meth c H1 locs1 (cells + mc) (slots + ms) Q (F0 m (pc + 3) ls rest)) : W p l e R s m args below meth c H locs cells slots Q (F0 m pc ls st0) := by
  have hFc := va_free (wc := [(q, .inr (ci, fs))]) hD hS hA [W0.length + 1] (by simp)
  refine va_callv hr hS (fun z _ h => hFc z h) hFc (fun f t H1 locs1 ht hvm hw hB hz1 hk1 hS1 => ?_)
  obtain ⟨hP1, hD1⟩ := hB
  rw [ht] at hP1
  obtain ⟨a1, a2⟩ := n_join (X := c0 :: W0) (w1 := B f) hP hD hk1 hFc hP1 hD1
  exact kk f H1 locs1 hw a1 a2 hS1
theorem n_blind {ci : Nat} {fs : List Value} {av : List Value} {q sz : Nat} : FrameBlind (va_Pc av (fun U => U.heap.size = sz ∧ va_P D clX [(q, .inr (ci, fs))] U.heap ∧ nIn D gc U ∧ va_D (fun _ => True) [(q, .inr (ci, fs))])) :=
  fun a U g mk z => ⟨z.1, z.2.1, z.2.2.1, nIn_call z.2.2.2.1, z.2.2.2.2⟩
theorem n_last {q ci : Nat} {fs : List Value} (hP : va_P D clX (c0 :: (W0 ++ [(q, .inr (ci, fs))])) H) (hD : va_D A (c0 :: (W0 ++ [(q, .inr (ci, fs))]))) : va_P D clX [(q, .inr (ci, fs))] H ∧ va_D (fun _ => True) [(q, .inr (ci, fs))] := by
  refine ⟨hP.sub [W0.length + 1] (by simp), (hD.sub (ws' := [(q, .inr (ci, fs))]) [W0.length + 1] rfl (by simp)).weaken (fun _ _ _ _ => trivial)⟩
/-- a constructor of the nest -/
theorem n_call (hx : p.tables.exec = Jvm.exec) (hb : c.code = cc) (hml : c.maxLocals = nL) (hown : s.vm.findClass own = some m.cls) (hts : ∀ w ∈ xTs, w.before args s = true) (hI : nIn D gc s) {C : String} {Y : ByteArray} {ml ci mc ms : Nat} {rm : Room} {fs : List Value} {B : (Nat → Nat) → va_W} {q : Nat} (hP : va_P D clX (c0 :: (W0 ++ [(q, .inr (ci, fs))])) H) (hD : va_D A (c0 :: (W0 ++ [(q, .inr (ci, fs))]))) (hS : va_S A H0 H locs) (hA : ∀ q, H0.size ≤ q → A q)
    (hM : nMet l D gc ⟨C, "<init>", "()V"⟩ Y ml rm ci fs [] mc ms B) {index : Nat} (hnn : (own, index, C) ∈ nNs) (h1 : Cond.code ⟨C, "<init>", "()V"⟩ Y ml none ∈ xTs) (h2 : Cond.initialized C ∈ xTs) (h3 : Cond.instanceMethod ⟨C, "<init>", "()V"⟩ ∈ xTs) (hrc : rm.cells = mc) (hrs : rm.slots = ms) (hd : C ≠ "java/lang/invoke/MethodHandle" ∧ C ≠ "java/lang/invoke/VarHandle") (hR : rm.frames + 1 ≤ R.frames ∧ 8 + (ml + 11) + rm.locals ≤ R.locals) (hls : ls.size = nL) (hrest : (rest.map fun v => v.category).sum ≤ 8) (hf : cells + mc ≤ R.cells ∧ slots + ms ≤ R.slots) (hdg : decode cc pc = .ok (.invokespecial index, 3))
    (kk : ∀ (f : Nat → Nat) (H1 : Heap) (locs1 : List Loc), f 0 = q → va_P D clX (c0 :: (W0 ++ B f)) H1 → va_D A (c0 :: (W0 ++ B f)) → va_S A H0 H1 locs1 → W p l e R s m args below meth c H1 locs1 (cells + mc) (slots + ms) Q (F0 m (pc + 3) ls rest)) : W p l e R s m args below meth c H locs cells slots Q (F0 m pc ls (.ref q :: rest)) := by
  have hcw := va_cnB (R := R) (own := own) (host := "DeadStick") (index := index) (y := ⟨C, "<init>", "()V"⟩) (mc := mc) (ms := ms) (rm := rm) 0 hts (xTs_good (L := .code ⟨C, "<init>", "()V"⟩ Y ml none :: xTs) (by
    intro z hz
    rcases List.mem_cons.mp hz with q | q
    · rw [q]; exact h1
    · exact q)) rfl hrc hrs (hI.2 _ hnn) (hts _ h2) ⟨hd.1, hd.2, show (parseMethodDescriptor "()V").map (fun d => d.parameters.length) = some 0 by decide +kernel⟩ hR
  obtain ⟨hPl, hDl⟩ := n_last hP hD
  refine n_post hP hD hS hA (va_runIN (As := []) (rest := rest) ⟨hx, hb, hml, hown, hts⟩ (hM q H.size) ⟨hcw, rfl, hts _ h3⟩ ⟨n_blind, fun U hU hW => ⟨rfl, by rw [hU], by rw [hU]; exact hPl, nIn_to hI hW, hDl⟩⟩ rfl rfl hls rfl (lv_room hrest) hdg hf) kk
/-- a constructor that the class may call -/
theorem n_calp (hx : p.tables.exec = Jvm.exec) (hb : c.code = cc) (hml : c.maxLocals = nL) (hown : s.vm.findClass own = some m.cls) (hts : ∀ w ∈ xTs, w.before args s = true) (hI : nIn D gc s) {y : MethodName} {Y : ByteArray} {ml ci mc ms : Nat} {rm : Room} {fs : List Value} {B : (Nat → Nat) → va_W} {q : Nat} {p1 p2 : Int32} (hP : va_P D clX (c0 :: (W0 ++ [(q, .inr (ci, fs))])) H) (hD : va_D A (c0 :: (W0 ++ [(q, .inr (ci, fs))]))) (hS : va_S A H0 H locs) (hA : ∀ q, H0.size ≤ q → A q)
    (hM : nMet l D gc y Y ml rm ci fs [.int p1, .int p2] mc ms B) {index : Nat} (hl : Cond.methodLink own index y ∈ xTs) (h1 : Cond.code y Y ml none ∈ xTs) (h2 : Cond.initialized y.cls ∈ xTs) (h3 : Cond.instanceMethod y ∈ xTs) (hrc : rm.cells = mc) (hrs : rm.slots = ms) (hy : y.name = "<init>") (hd : y.cls ≠ "java/lang/invoke/MethodHandle" ∧ y.cls ≠ "java/lang/invoke/VarHandle" ∧ (parseMethodDescriptor y.desc).map (fun d => d.parameters.length) = some 2) (hR : rm.frames + 1 ≤ R.frames ∧ 8 + (ml + 11) + rm.locals ≤ R.locals) (hls : ls.size = nL) (hrest : (rest.map fun v => v.category).sum ≤ 8) (hf : cells + mc ≤ R.cells ∧ slots + ms ≤ R.slots) (hdg : decode cc pc = .ok (.invokespecial index, 3))
    (kk : ∀ (f : Nat → Nat) (H1 : Heap) (locs1 : List Loc), f 0 = q → va_P D clX (c0 :: (W0 ++ B f)) H1 → va_D A (c0 :: (W0 ++ B f)) → va_S A H0 H1 locs1 → W p l e R s m args below meth c H1 locs1 (cells + mc) (slots + ms) Q (F0 m (pc + 3) ls rest)) : W p l e R s m args below meth c H locs cells slots Q (F0 m pc ls (.int p2 :: .int p1 :: .ref q :: rest)) := by
  have hcw := cwI (R := R) (own := own) (index := index) (y := y) (mc := mc) (ms := ms) (rm := rm) 2 hts (xTs_good (L := .code y Y ml none :: xTs) (by
    intro z hz
    rcases List.mem_cons.mp hz with q | q
    · rw [q]; exact h1
    · exact q)) rfl hrc hrs (hts _ h2) (hts _ hl) (hts _ h3) hy hd hR
  obtain ⟨hPl, hDl⟩ := n_last hP hD
  refine n_post hP hD hS hA (va_runI (As := [.int p1, .int p2]) (rest := rest) ⟨hx, hb, hml, hown, hts⟩ (hM q H.size) hcw ⟨n_blind, fun U hU hW => ⟨rfl, by rw [hU], by rw [hU]; exact hPl, nIn_to hI hW, hDl⟩⟩ rfl rfl hls rfl (lv_room hrest) hdg hf) kk
end
