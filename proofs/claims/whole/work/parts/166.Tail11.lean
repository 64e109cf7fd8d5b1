/-! CONSTRUCTORS, part 5: DeadStick() -/
section
variable {p : Program} {l : Launch} {e : Env} {R : Room} {s : State} {m : MethodId} {args : Array Value} {below : List Frame} {meth : Method} {c : Code} {H : Heap} {H0 : Heap} {locs : List Loc} {cells slots : Nat} {Q : State → Prop} {cc : ByteArray} {D : va_G} {A : Nat → Prop} {tys : List (ClassId × FieldType)} {W0 Y Z : va_W} {c0 : Nat × va_E} {pc : Nat} {ls : Array Slot} {rest : List Value}
theorem n_set2 {α : Type} (l m : List α) (x y : α) : ((l ++ [x]) ++ m).set l.length y = (l ++ [y]) ++ m := by
  induction l with
  | nil => rfl
  | cons a l ih => exact congrArg (fun z => a :: z) ih
theorem n_aast (hx : p.tables.exec = Jvm.exec) (hb : c.code = cc) (hK : va_K D clX tys s) {q : Nat} {cA : ClassId} {N : Nat} {f : Nat → Option Nat} {v ci : Nat} {vs : List Value} {B : va_W} (hz : Z = (W0 ++ [(q, .inl (cA, (N, .inr (.inr (.inr (.inr f))))))]) ++ Y) (hP : va_P D clX (c0 :: (Z ++ (v, .inr (ci, vs)) :: B)) H) (hD : va_D A (c0 :: (Z ++ (v, .inr (ci, vs)) :: B))) (hS : va_S A H0 H locs) (t0 : Nat) {r : vw_C} (hc : xat clX ci = some r) (ht : tys[t0]? = some (cA, .object r.1)) {i : Int32} (hin : vp_in i N) (hdg : decode cc pc = .ok (.aastore, 1))
    (kk : ∀ (H1 : Heap) (locs1 : List Loc), va_P D clX (c0 :: (((W0 ++ [(q, .inl (cA, (N, .inr (.inr (.inr (.inr (va_up f i.toNatClampNeg (some v))))))))]) ++ Y) ++ (v, .inr (ci, vs)) :: B)) H1 → va_D A (c0 :: (((W0 ++ [(q, .inl (cA, (N, .inr (.inr (.inr (.inr (va_up f i.toNatClampNeg (some v))))))))]) ++ Y) ++ (v, .inr (ci, vs)) :: B)) → va_S A H0 H1 locs1 → W p l e R s m args below meth c H1 locs1 cells slots Q (F0 m (pc + 1) ls rest)) : W p l e R s m args below meth c H locs cells slots Q (F0 m pc ls (.ref v :: .int i :: .ref q :: rest)) := by
  subst hz
  refine va_astq hx hb hK hP hD hS (W0.length + 1) t0 (((W0 ++ [((q, Sum.inl (cA, (N, Sum.inr (Sum.inr (Sum.inr (Sum.inr f)))))) : Nat × va_E)]) ++ Y).length + 1) ci (cA := cA) (n := N) (f := f) (r := r) (vs := vs) ?_ ht ?_ (clX_ok _ _ hc).2.2.2.1 hin hdg (fun H1 locs1 hP1 hD1 hS1 => ?_)
  · rw [List.getElem?_cons_succ, List.append_assoc, List.append_assoc, List.getElem?_append_right (Nat.le_refl _), Nat.sub_self]
    rfl
  · rw [List.getElem?_cons_succ, List.getElem?_append_right (Nat.le_refl _), Nat.sub_self]
    rfl
  · have e : ∀ x : Nat × va_E, (c0 :: (((W0 ++ [((q, Sum.inl (cA, (N, Sum.inr (Sum.inr (Sum.inr (Sum.inr f)))))) : Nat × va_E)]) ++ Y) ++ (v, Sum.inr (ci, vs)) :: B)).set (W0.length + 1) x = c0 :: (((W0 ++ [x]) ++ Y) ++ (v, Sum.inr (ci, vs)) :: B) := fun x => by
      have := n_set2 W0 (Y ++ (v, .inr (ci, vs)) :: B) ((q, Sum.inl (cA, (N, Sum.inr (Sum.inr (Sum.inr (Sum.inr f)))))) : Nat × va_E) x
      rw [← List.append_assoc, ← List.append_assoc] at this
      exact congrArg (fun z => c0 :: z) this
    rw [e] at hP1 hD1
    exact kk H1 locs1 hP1 hD1 hS1
end
def nZ0 : zH := fun o k => if o = 70 then (if k = 0 then 4 else if k = 1 then 3 else 0) else 0
def nZs (z : zH) (i : Int) : zH := zup (zup z 70 3 (i + 1)) 71 (i * 3 + 0) 3
def nZ4 : zH := nZs (nZs (nZs (nZs nZ0 0) (0 + 1)) (0 + 1 + 1)) (0 + 1 + 1 + 1)
theorem nZ0_R : zRR nZ0 := by
  intro o k
  unfold nZ0
  simp only [zR]
  split
  · split
    · omega
    · split <;> omega
  · omega
theorem nZs_R {z : zH} (h : zRR z) {i : Int} (hi : 0 ≤ i ∧ i < 4) : zRR (nZs z i) := zRR_up (zRR_up h _ _ (by simp only [zR]; omega)) _ _ (by simp only [zR]; omega)

section
variable {p : Program} {l : Launch} {e : Env} {R : Room} {s : State} {m : MethodId} {args : Array Value} {below : List Frame} {meth : Method} {c : Code} {H : Heap} {locs : List Loc} {cells slots : Nat} {Q : State → Prop} {G : xG} {A : Nat → Prop} {tys : List (ClassId × FieldType)} {P S Z : va_W} {ls : Array Slot} {a : Nat} {fs : List Value} {f : Nat → Nat}
set_option maxHeartbeats 4000000 in
theorem n_tail11 (hSe : S = BX7 (gcl G) (4 : Int32) (3 : Int32) 12 f) (hx : p.tables.exec = Jvm.exec) (hb : c.code = cX11_init) (hml : c.maxLocals = 2) (hown : s.vm.findClass RX11 = some m.cls) (hts : ∀ w ∈ xTs, w.before args s = true) (hK3 : va_K (gD G) clX (nTy (gcl G)) s) (hK : va_K (gD G) clX tys s) (hBg : xBg G A s) (hov : (gov G).category = 1) (hA : ∀ q, s.heap.size ≤ q → A q) (hR : 4 ≤ R.frames ∧ 240 ≤ R.locals) (hf : cells ≤ R.cells ∧ slots ≤ R.slots) (h10 : fs[10]? = some (.ref (f 0))) (hP : va_P (gD G) clX ((((a, .inr (11, fs)) :: P) ++ S) ++ Z) H) (hD : va_D A ((((a, .inr (11, fs)) :: P) ++ S) ++ Z)) (hS : va_S A s.heap H locs) (hl : lv_has ls 2 [(0, .ref a)])
    (kk : ∀ (H1 : Heap) (locs1 : List Loc) (ls : Array Slot), va_P (gD G) clX ((((a, .inr (11, fs)) :: P) ++ [(f 0, .inr (7, [.int (zI 4), .int (zI 3), .ref (f 1), .int (zI 4)])), (f 1, .inl (gcl G 1, (12, .inl (hI nZ4 71))))]) ++ Z) H1 → va_D A ((((a, .inr (11, fs)) :: P) ++ [(f 0, .inr (7, [.int (zI 4), .int (zI 3), .ref (f 1), .int (zI 4)])), (f 1, .inl (gcl G 1, (12, .inl (hI nZ4 71))))]) ++ Z) → va_S A s.heap H1 locs1 → W p l e R s m args below meth c H1 locs1 cells slots Q (F0 m 203 ls [])) : W p l e R s m args below meth c H locs cells slots Q (F0 m 172 ls []) := by
  refine lv_iconst (n := 0) (v := zI 0) hx hb (show decode cX11_init 172 = .ok (.iconst 0, 1) by decide +kernel) rfl ?_
  refine lv_istore_n (lv' := [(1, .int (zI 0)), (0, .ref a)]) hx hb (show decode cX11_init 173 = .ok (.istore_n 1, 1) by decide +kernel) rfl hl (by decide) rfl (fun ls hl => ?_)
  have hn70 : f 0 ≠ f 1 := by
    intro hq
    have h2 := n_lastD (n_firstD hD)
    rw [hSe] at h2
    have := h2.1 0 1 _ _ rfl rfl hq
    omega
  have hP := n_swapP hP
  have hD := n_swapD hD
  rw [← List.append_assoc] at hP hD
  obtain ⟨G', hG'⟩ : ∃ G' : xG, G' = (G.1, (fun k => if k = 70 then f 0 else f 1), G.2.2) := ⟨_, rfl⟩
  have e4 : (4 : Int32) = zI 4 := rfl
  have e3 : (3 : Int32) = zI 3 := rfl
  have e0 : (0 : Int32) = zI 0 := rfl
  have hSx : S = xwd G' 70 2 (hI nZ0) := by
    rw [hSe, hG']
    unfold BX7
    rw [e4, e3, e0]
    rfl
  have hD' : gD G = gD G' := by rw [hG']
  have hBg' : xBg G' A s := by rw [hG']; exact hBg
  have hGo : xGo G' 70 2 [1] := n_go70 (by rw [hG']; exact hn70) (by rw [hG']; exact hov)
  rw [hSx] at hP hD
  rw [hD'] at hP hK hK3
  have hK1 : va_K (gD G') clX (xtys G' [1]) s := by
    have e : xtys G' [1] = [(gcl G 1, .int)] := by rw [hG']; rfl
    rw [e]
    exact hK3.sub (tys' := [(gcl G 1, .int)]) [0] rfl
  have h70 : some (Value.ref (f 0)) = some (.ref (gad G' 70)) := by rw [hG']; rfl
  have he : (Z ++ ((a, .inr (11, fs)) :: P))[Z.length]? = some (a, .inr (11, fs)) := by rw [List.getElem?_append_right (Nat.le_refl _), Nat.sub_self]; rfl
  refine n_shelf (z := nZ0) hx hb hml hown hts hK hK1 hBg' hGo hA hR hf he (h10.trans h70) (0) (by decide) nZ0_R (by decide) (by decide) (by decide) hP hD hS hl (fun H locs ls hP hD hS hl => ?_)
  refine n_shelf (z := (nZs nZ0 (0))) hx hb hml hown hts hK hK1 hBg' hGo hA hR hf he (h10.trans h70) (0 + 1) (by decide) (nZs_R nZ0_R (by decide)) (by decide) (by decide) (by decide) hP hD hS hl (fun H locs ls hP hD hS hl => ?_)
  refine n_shelf (z := (nZs (nZs nZ0 (0)) (0 + 1))) hx hb hml hown hts hK hK1 hBg' hGo hA hR hf he (h10.trans h70) (0 + 1 + 1) (by decide) (nZs_R (nZs_R nZ0_R (by decide)) (by decide)) (by decide) (by decide) (by decide) hP hD hS hl (fun H locs ls hP hD hS hl => ?_)
  refine n_shelf (z := (nZs (nZs (nZs nZ0 (0)) (0 + 1)) (0 + 1 + 1))) hx hb hml hown hts hK hK1 hBg' hGo hA hR hf he (h10.trans h70) (0 + 1 + 1 + 1) (by decide) (nZs_R (nZs_R (nZs_R nZ0_R (by decide)) (by decide)) (by decide)) (by decide) (by decide) (by decide) hP hD hS hl (fun H locs ls hP hD hS hl => ?_)
  refine lv_iload_n hx hb (show decode cX11_init 174 = .ok (.iload_n 1, 1) by decide +kernel) rfl (lv_at hl 0 rfl) ?_
  refine lv_iconst (n := 4) (v := (4 : Int32)) hx hb (show decode cX11_init 175 = .ok (.iconst 4, 1) by decide +kernel) (by decide) ?_
  refine lv_icmp_ge (tgt := 203) hx hb (show decode cX11_init 176 = .ok (.if_icmp .ge 27, 3) by decide +kernel) (by decide) (fun _ => ?_) (fun q => absurd (by decide) q)
  have hP : va_P (gD G') clX ((Z ++ ((a, .inr (11, fs)) :: P)) ++ xwd G' 70 2 (hI nZ4)) H := hP
  have hD : va_D A ((Z ++ ((a, .inr (11, fs)) :: P)) ++ xwd G' 70 2 (hI nZ4)) := hD
  rw [List.append_assoc] at hP hD
  have hP := n_swapP hP
  have hD := n_swapD hD
  rw [← hD'] at hP
  have eX : xwd G' 70 2 (hI nZ4) = [(f 0, .inr (7, [.int (hI nZ4 70 0), .int (hI nZ4 70 1), .ref (f 1), .int (hI nZ4 70 3)])), (f 1, .inl (gcl G 1, (12, .inl (hI nZ4 71))))] := by rw [hG']; rfl
  have n0 : hI nZ4 70 0 = zI 4 := by decide
  have n1 : hI nZ4 70 1 = zI 3 := by decide
  have n3 : hI nZ4 70 3 = zI 4 := by decide
  rw [eX, n0, n1, n3] at hP hD
  exact kk H locs ls hP hD hS
end
