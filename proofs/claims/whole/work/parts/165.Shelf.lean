/-! CONSTRUCTORS, part 4: DeadStick's own loop over its shelves; arrays of objects -/
theorem n_lay70 : xlay 70 2 [1] := by
  intro o h1 h2
  rcases (show o = 70 ∨ o = 71 by omega) with rfl | rfl <;> decide +kernel
theorem n_go70 {G : xG} (h : gad G 70 ≠ gad G 71) (hov : (gov G).category = 1) : xGo G 70 2 [1] := by
  refine ⟨fun i j hi hj e => ?_, hov, n_lay70⟩
  rcases (show i = 0 ∨ i = 1 by omega) with rfl | rfl <;> rcases (show j = 0 ∨ j = 1 by omega) with rfl | rfl
  · rfl
  · exact absurd e h
  · exact absurd e.symm h
  · rfl
section
variable {p : Program} {l : Launch} {e : Env} {R : Room} {s : State} {m : MethodId} {args : Array Value} {below : List Frame} {meth : Method} {c : Code} {H : Heap} {locs : List Loc} {cells slots : Nat} {Q : State → Prop} {G : xG} {A : Nat → Prop} {tys : List (ClassId × FieldType)} {X : va_W} {ls : Array Slot} {a q0 : Nat} {fs : List Value}
set_option maxHeartbeats 4000000 in
theorem n_shelf (hx : p.tables.exec = Jvm.exec) (hb : c.code = cX11_init) (hml : c.maxLocals = 2) (hown : s.vm.findClass RX11 = some m.cls) (hts : ∀ w ∈ xTs, w.before args s = true) (hK0 : va_K (gD G) clX tys s) (hK : va_K (gD G) clX (xtys G [1]) s) (hBg : xBg G A s) (hGo : xGo G 70 2 [1]) (hA : ∀ q, s.heap.size ≤ q → A q) (hR : 4 ≤ R.frames ∧ 240 ≤ R.locals) (hf : cells ≤ R.cells ∧ slots ≤ R.slots) (he : X[q0]? = some (a, .inr (11, fs))) (h10 : fs[10]? = some (.ref (gad G 70))) (i : Int) (hi : 0 ≤ i ∧ i < 4) {z : zH} (hz : zRR z) (z0 : z 70 0 = 4) (z1 : z 70 1 = 3) (z3 : z 70 3 = i) (hP : va_P (gD G) clX (X ++ xwd G 70 2 (hI z)) H) (hD : va_D A (X ++ xwd G 70 2 (hI z))) (hS : va_S A s.heap H locs) (hl : lv_has ls 2 [(1, .int (zI i)), (0, .ref a)])
    (kk : ∀ (H1 : Heap) (locs1 : List Loc) (ls : Array Slot), va_P (gD G) clX (X ++ xwd G 70 2 (hI (zup (zup z 70 3 (i + 1)) 71 (i * 3 + 0) 3))) H1 → va_D A (X ++ xwd G 70 2 (hI (zup (zup z 70 3 (i + 1)) 71 (i * 3 + 0) 3))) → va_S A s.heap H1 locs1 → lv_has ls 2 [(1, .int (zI (i + 1))), (0, .ref a)] → W p l e R s m args below meth c H1 locs1 cells slots Q (F0 m 174 ls [])) : W p l e R s m args below meth c H locs cells slots Q (F0 m 174 ls []) := by
  have c1 : ¬ (4 : Int32) ≤ zI i := by
    rcases (show i = 0 ∨ i = 1 ∨ i = 2 ∨ i = 3 by omega) with z | z | z | z <;> subst z <;> decide
  have c2 : zI i + Int32.ofInt 1 = zI (i + 1) := by
    rcases (show i = 0 ∨ i = 1 ∨ i = 2 ∨ i = 3 by omega) with z | z | z | z <;> subst z <;> decide
  have heq : ∀ Y : va_W, (X ++ Y)[q0]? = some (a, .inr (11, fs)) := fun Y => by rw [List.getElem?_append_left (List.getElem?_eq_some_iff.mp he).1]; exact he
  have cc1 := c_rOpened 1 hz (o := 70) (by omega)
  rw [z3] at cc1
  have hz2 : zRR (zup z 70 3 (i + 1)) := zRR_up hz _ _ (by simp only [zR]; omega)
  have cc2 := c_rBecome 0 hz2 (o := 70) (i := i) (k := 0) (w := 3) (n := 4) (u := 3) (by unfold zup; rw [if_neg (by omega)]; exact z1) (by rw [zup_at]; omega) (by rw [zup_at]; omega) (by omega) (by decide) (by decide)
  obtain ⟨d1, -, d3, d4, -⟩ := clX_ok 11 _ rfl
  refine lv_iload_n hx hb (show decode cX11_init 174 = .ok (.iload_n 1, 1) by decide +kernel) rfl (lv_at hl 0 rfl) ?_
  refine lv_iconst (n := 4) (v := (4 : Int32)) hx hb (show decode cX11_init 175 = .ok (.iconst 4, 1) by decide +kernel) (by decide) ?_
  refine lv_icmp_ge (tgt := 203) hx hb (show decode cX11_init 176 = .ok (.if_icmp .ge 27, 3) by decide +kernel) (by decide) (fun q => absurd q c1) (fun _ => ?_)
  refine lv_aload_n hx hb (show decode cX11_init 179 = .ok (.aload_n 0, 1) by decide +kernel) rfl (lv_at hl 1 rfl) ?_
  refine va_get hx hb hts d1 hown hK0 hP q0 (heq _) d4 10 (by decide) (hts _ (xinq_mem (q := 1117) (by decide +kernel))) (fun _ z => z) h10 (show decode cX11_init 180 = .ok (.getfield 74, 3) by decide +kernel) ?_
  refine n_machI (as := []) (o := 70) (t := 23) (j := 56) (h' := hI (zup z 70 3 (i + 1))) hx hb hml hown hts hK hBg hGo hA hP hD hS rfl rfl cc1 ?_ ⟨_, rfl, rfl⟩ (by decide) (xinq_mem (q := 1095) (by decide +kernel)) ⟨hR.1, hR.2⟩ rfl hl.1 (Nat.le_of_ble_eq_true rfl) hf (show decode cX11_init 183 = .ok (.invokevirtual 84, 3) by decide +kernel) rfl (fun H locs hP hD hS => ?_)
  · intro v hv
    rcases List.mem_cons.mp hv with hv | hv
    · subst hv; exact Or.inr (Or.inr (Or.inr (Or.inr ⟨by decide, by decide, rfl, by decide, by decide, by decide⟩)))
    · cases hv
  refine lv_pop hx hb (show decode cX11_init 186 = .ok (.pop, 1) by decide +kernel) rfl ?_
  refine lv_aload_n hx hb (show decode cX11_init 187 = .ok (.aload_n 0, 1) by decide +kernel) rfl (lv_at hl 1 rfl) ?_
  refine va_get hx hb hts d1 hown hK0 hP q0 (heq _) d4 10 (by decide) (hts _ (xinq_mem (q := 1117) (by decide +kernel))) (fun _ z => z) h10 (show decode cX11_init 188 = .ok (.getfield 74, 3) by decide +kernel) ?_
  refine lv_iload_n hx hb (show decode cX11_init 191 = .ok (.iload_n 1, 1) by decide +kernel) rfl (lv_at hl 0 rfl) ?_
  refine lv_iconst (n := 0) (v := zI 0) hx hb (show decode cX11_init 192 = .ok (.iconst 0, 1) by decide +kernel) rfl ?_
  refine lv_iconst (n := 3) (v := zI 3) hx hb (show decode cX11_init 193 = .ok (.iconst 3, 1) by decide +kernel) rfl ?_
  refine n_machV (as := [xI (zI i), xI (zI 0), xI (zI 3)]) (o := 70) (t := 23) (j := 58) (v := zI 0) (h' := hI (zup (zup z 70 3 (i + 1)) 71 (i * 3 + 0) 3)) hx hb hml hown hts hK hBg hGo hA hP hD hS rfl rfl cc2 ?_ ⟨_, rfl, rfl⟩ (by decide) (xinq_mem (q := 1099) (by decide +kernel)) ⟨hR.1, hR.2⟩ rfl hl.1 (Nat.le_of_ble_eq_true rfl) hf (show decode cX11_init 194 = .ok (.invokevirtual 88, 3) by decide +kernel) rfl (fun H locs hP hD hS => ?_)
  · intro v hv
    rcases List.mem_cons.mp hv with hv | hv
    · subst hv; exact Or.inr (Or.inr (Or.inr (Or.inr ⟨by decide, by decide, rfl, by decide, by decide, by decide⟩)))
    · rcases List.mem_cons.mp hv with hv | hv
      · subst hv; trivial
      · rcases List.mem_cons.mp hv with hv | hv
        · subst hv; trivial
        · rcases List.mem_cons.mp hv with hv | hv
          · subst hv; trivial
          · cases hv
  refine lv_iinc (n := 1) (k := 0) (lv' := [(1, .int (zI (i + 1))), (0, .ref a)]) hx hb (show decode cX11_init 197 = .ok (.iinc 1 1, 3) by decide +kernel) hl rfl c2 (by decide) rfl (fun ls hl => ?_)
  refine lv_goto (tgt := 174) hx hb (show decode cX11_init 200 = .ok (.goto (-26), 3) by decide +kernel) (by decide) ?_
  exact kk H locs ls hP hD hS hl
end
theorem n_ar {cA : ClassId} {n : Nat} {f g : Nat → Value} (h : ∀ i, i < n → f i = g i) : arrV cA n f = arrV cA n g := by
  unfold arrV
  congr 1
  apply Array.ext
  · simp
  · intro i h1 h2
    simp at h1
    simp [h i h1]
/-- an array's content counts only within its length -/
theorem n_cell {D : va_G} {q : Nat} {cA : ClassId} {n : Nat} {f g : Nat → Int32} {H : Heap} (h : ∀ i, i < n → f i = g i) (hP : va_at D clX (q, .inl (cA, (n, .inl f))) H) : va_at D clX (q, .inl (cA, (n, .inl g))) H := by
  have hP : H[q]? = some (arrV cA n (fun j => .int (f j))) := hP
  show H[q]? = some (arrV cA n (fun j => .int (g j)))
  rw [hP, n_ar (fun i hi => by rw [h i hi])]
theorem n_cellq {D : va_G} {q : Nat} {cA : ClassId} {n : Nat} {f g : Nat → Option Nat} {H : Heap} (h : ∀ i, i < n → f i = g i) (hP : va_at D clX (q, .inl (cA, (n, .inr (.inr (.inr (.inr f)))))) H) : va_at D clX (q, .inl (cA, (n, .inr (.inr (.inr (.inr g)))))) H := by
  have hP : H[q]? = some (arrV cA n (fun j => va_rf (f j))) := hP
  show H[q]? = some (arrV cA n (fun j => va_rf (g j)))
  rw [hP, n_ar (fun i hi => by rw [h i hi])]
