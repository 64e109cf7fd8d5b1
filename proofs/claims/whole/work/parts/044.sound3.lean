/-! SOUNDNESS OF THE PURE MACHINE, part 3: fields, arrays, texts, switches -/
/-- every class of the layout: its fields are words of the tables, their types, their names differ -/
theorem clX_ok : ∀ ci, ∀ q, xat clX ci = some q → (∀ w ∈ u_ws q.1 q.2.1 q.2.2, w ∈ xTs) ∧ (∃ ty0 : Nat → FieldType, ∀ k, k < q.2.2 → parseFieldDescriptor (q.2.1 k).2.2.1 = some (ty0 k)) ∧ (∀ a, a < q.2.2 → ∀ b, b < q.2.2 → a ≠ b → (q.2.1 a).2.1 ≠ (q.2.1 b).2.1) ∧ clX[ci]? = some q ∧ (fsX (ci + 16)).length = q.2.2 := by
  intro ci q hq
  match ci, hq with

  | 0, hq => cases hq; exact ⟨fun w hw => xin_mem (List.all_eq_true.mp (show (wsX00).all xin = true by decide +kernel) w hw), ⟨tyX0, tyX0_ok⟩, nmX0, rfl, rfl⟩
  | 1, hq => cases hq; exact ⟨fun w hw => xin_mem (List.all_eq_true.mp (show (wsX10).all xin = true by decide +kernel) w hw), ⟨tyX1, tyX1_ok⟩, nmX1, rfl, rfl⟩
  | 2, hq => cases hq; exact ⟨fun w hw => xin_mem (List.all_eq_true.mp (show (wsX20).all xin = true by decide +kernel) w hw), ⟨tyX2, tyX2_ok⟩, nmX2, rfl, rfl⟩
  | 3, hq => cases hq; exact ⟨fun w hw => xin_mem (List.all_eq_true.mp (show (wsX30).all xin = true by decide +kernel) w hw), ⟨tyX3, tyX3_ok⟩, nmX3, rfl, rfl⟩
  | 4, hq => cases hq; exact ⟨fun w hw => xin_mem (List.all_eq_true.mp (show (wsX40).all xin = true by decide +kernel) w hw), ⟨tyX4, tyX4_ok⟩, nmX4, rfl, rfl⟩
  | 5, hq => cases hq; exact ⟨fun w hw => xin_mem (List.all_eq_true.mp (show (wsX50).all xin = true by decide +kernel) w hw), ⟨tyX5, tyX5_ok⟩, nmX5, rfl, rfl⟩
  | 6, hq => cases hq; exact ⟨fun w hw => xin_mem (List.all_eq_true.mp (show (wsX60).all xin = true by decide +kernel) w hw), ⟨tyX6, tyX6_ok⟩, nmX6, rfl, rfl⟩
  | 7, hq => cases hq; exact ⟨fun w hw => xin_mem (List.all_eq_true.mp (show (wsX70).all xin = true by decide +kernel) w hw), ⟨tyX7, tyX7_ok⟩, nmX7, rfl, rfl⟩
  | 8, hq => cases hq; exact ⟨fun w hw => xin_mem (List.all_eq_true.mp (show (wsX80).all xin = true by decide +kernel) w hw), ⟨tyX8, tyX8_ok⟩, nmX8, rfl, rfl⟩
  | 9, hq => cases hq; exact ⟨fun w hw => xin_mem (List.all_eq_true.mp (show (wsX90).all xin = true by decide +kernel) w hw), ⟨tyX9, tyX9_ok⟩, nmX9, rfl, rfl⟩
  | 10, hq => cases hq; exact ⟨fun w hw => xin_mem (List.all_eq_true.mp (show (wsX100).all xin = true by decide +kernel) w hw), ⟨tyX10, tyX10_ok⟩, nmX10, rfl, rfl⟩
  | 11, hq => cases hq; exact ⟨fun w hw => xin_mem (List.all_eq_true.mp (show (wsX110).all xin = true by decide +kernel) w hw), ⟨tyX11, tyX11_ok⟩, nmX11, rfl, rfl⟩
  | 12, hq => cases hq; exact ⟨fun w hw => xin_mem (List.all_eq_true.mp (show (wsX120).all xin = true by decide +kernel) w hw), ⟨tyX12, tyX12_ok⟩, nmX12, rfl, rfl⟩
  | n + 13, hq => cases hq
theorem xat_get {α : Type} : ∀ (l : List α) (i : Nat), xat l i = l[i]? := by
  intro l
  induction l with
  | nil => intro i; rfl
  | cons a l ih =>
    intro i
    cases i with
    | zero => rfl
    | succ i => simp only [xat, List.getElem?_cons_succ, ih]
/-- an object's cell -/
theorem xen_obj {G : xG} {h : xH} {o : Nat} (h1 : 16 ≤ kdX o) : xen G h o = .inr (kdX o - 16, xfl G h o 0 (fsX (kdX o))) := by
  unfold xen
  rw [if_neg (by omega), if_neg (by omega), if_neg (by omega), if_neg (by omega), if_neg (by omega)]
theorem xadr_ad {G : xG} {t o : Nat} (h1 : t ≠ 4) (h2 : t ≠ 5) (h3 : t ≠ 9) : xadr G t o = gad G o := by
  unfold xadr
  rw [if_neg h1, if_neg h2, if_neg h3]
theorem xb_t {a b : Nat} (h : Nat.beq a b = true) : a = b := Nat.eq_of_beq_eq_true h
theorem xb_f {a b : Nat} (h : Nat.beq a b = false) : a ≠ b := fun q => by
  subst q
  rw [Nat.beq_refl] at h
  cases h
theorem xfk_s {sw : List (Int32 × Nat)} {own : String} {idx a b : Nat} (h : xfk sw own idx a b = true) : 16 ≤ a ∧ ∃ q, xat clX (a - 16) = some q ∧ b < q.2.2 ∧ (Cond.fieldLink own idx (q.2.1 b).1 (q.2.1 b).2.1 (q.2.1 b).2.2.1) ∈ xTs := by
  unfold xfk at h
  split at h
  · cases h
  · rename_i q hq
    simp only [Bool.and_eq_true, decide_eq_true_eq] at h
    exact ⟨h.1.1, q, hq, h.1.2, xinp_mem h.2⟩
theorem xrf_in {lo n t o : Nat} (h : xrf lo n t o) (h0 : t ≠ 0) (h4 : t ≠ 4) (h5 : t ≠ 5) (h9 : t ≠ 9) : lo ≤ o ∧ o < lo + n ∧ kdX o = t := by
  rcases h with h | h | h | h | h
  · exact absurd h h0
  · exact absurd h.1 h4
  · exact absurd h.1 h5
  · exact absurd h.1 h9
  · exact ⟨h.1, h.2.1, h.2.2.1⟩
section

variable {p : Program} {l : Launch} {e : Env} {R : Room} {s : State} {m : MethodId} {args : Array Value} {below : List Frame} {meth : Method} {c : Code} {own : String} {cc : ByteArray} {nL : Nat} {G : xG} {lo n : Nat} {tg : List Nat} {Q : State → Prop} {rt : Option FieldType}
variable {pc nx : Nat} {ls : List (Option xV)} {st : List xV} {h : xH} {r : Int32 × xH} {k : Nat → List (Option xV) → List xV → xH → xO}

theorem xj_getI (Cx : xCx p R s m args c own cc nL G lo n tg) (K : ∀ pc ls st h, k pc ls st h = some r → xJ p l e R s m args below meth c nL G lo n Q pc ls st h) {a b v : Nat} {sw : List (Int32 × Nat)} (hf : xfk sw own v a b = true) (hq : xat (fsX a) b = some (0, 0, 0)) (hd : decode cc pc = .ok (.getfield v, 3)) (hn : nx = pc + 3) (hk : (xsR st fun t o st => xgd (Nat.beq t a) (k nx ls (xI (h o b) :: st) h)) = some r) : xJ p l e R s m args below meth c nL G lo n Q pc ls st h := by
  obtain ⟨hx, hb, hml, hown, hts, hKK, hBg, hGo, hfr, hlo⟩ := id Cx
  subst hn
  intro H locs lsA ho hs hP hS hL
  obtain ⟨t, o, u, hst, hk2⟩ := xsR_i hk
  subst hst
  obtain ⟨hg, hk3⟩ := xgd_i hk2
  have ht := xb_t hg
  subst ht
  obtain ⟨h16, q, hqc, hbn, hlk⟩ := xfk_s hf
  obtain ⟨c1, -, -, c4, c5⟩ := clX_ok _ _ hqc
  obtain ⟨r1, r2, r3⟩ := xrf_in (xoks_c.mp hs).1 (by omega) (by omega) (by omega) (by omega)
  have hat := xwd_at G h r1 r2
  rw [xen_obj (by omega), r3] at hat
  have hv : (xfl G h o 0 (fsX t))[b]? = some (.int (h o b)) := by
    rw [xat_get] at hq
    rw [xfl_at, hq]
    simp
  rw [List.map_cons, xcv_R (by omega), xadr_ad (by omega) (by omega) (by omega)]
  exact va_get (tys := xtys G tg) hx hb hts c1 hown hKK hP (o - lo) hat c4 b hbn (hts _ hlk) (fun _ z => z) hv hd (K _ _ _ _ hk3 H locs lsA ho (xoks_I (xoks_t hs)) hP hS hL)
theorem xj_getR (Cx : xCx p R s m args c own cc nL G lo n tg) (K : ∀ pc ls st h, k pc ls st h = some r → xJ p l e R s m args below meth c nL G lo n Q pc ls st h) {a b v tc d : Nat} {sw : List (Int32 × Nat)} (hf : xfk sw own v a b = true) (hq : xat (fsX a) b = some (1, tc, d)) (hd : decode cc pc = .ok (.getfield v, 3)) (hn : nx = pc + 3) (hk : (xsR st fun t o st => xgd (Nat.beq t a) (k nx ls (xR tc (o + d) :: st) h)) = some r) : xJ p l e R s m args below meth c nL G lo n Q pc ls st h := by
  obtain ⟨hx, hb, hml, hown, hts, hKK, hBg, hGo, hfr, hlo⟩ := id Cx
  subst hn
  intro H locs lsA ho hs hP hS hL
  obtain ⟨t, o, u, hst, hk2⟩ := xsR_i hk
  subst hst
  obtain ⟨hg, hk3⟩ := xgd_i hk2
  have ht := xb_t hg
  subst ht
  obtain ⟨h16, q, hqc, hbn, hlk⟩ := xfk_s hf
  obtain ⟨c1, -, -, c4, c5⟩ := clX_ok _ _ hqc
  obtain ⟨r1, r2, r3⟩ := xrf_in (xoks_c.mp hs).1 (by omega) (by omega) (by omega) (by omega)
  have hat := xwd_at G h r1 r2
  rw [xen_obj (by omega), r3] at hat
  rw [xat_get] at hq
  have hv : (xfl G h o 0 (fsX t))[b]? = some (.ref (gad G (o + d))) := by
    rw [xfl_at, hq]
    simp
  obtain ⟨-, -, l3, -⟩ := hGo.2.2 o r1 r2
  have l3 := l3 (by omega) (1, tc, d) (by rw [r3]; exact List.mem_of_getElem? hq)
  have l3 : lo ≤ o + d ∧ o + d < lo + n ∧ kdX (o + d) = tc := by
    rcases l3 with z | z
    · cases z
    · exact z
  obtain ⟨l4, -⟩ := hGo.2.2 (o + d) l3.1 l3.2.1
  have hrf : xrf lo n tc (o + d) := Or.inr (Or.inr (Or.inr (Or.inr ⟨l3.1, l3.2.1, l3.2.2, by omega, by omega, by omega⟩)))
  have h9 := K _ _ _ _ hk3 H locs lsA ho (xoks_c.mpr ⟨hrf, xoks_t hs⟩) hP hS hL
  rw [List.map_cons, xcv_R (by omega), xadr_ad (by omega) (by omega) (by omega)] at h9
  rw [List.map_cons, xcv_R (by omega), xadr_ad (by omega) (by omega) (by omega)]
  exact va_get (tys := xtys G tg) hx hb hts c1 hown hKK hP (o - lo) hat c4 b hbn (hts _ hlk) (fun _ z => z) hv hd h9
theorem xj_getS (Cx : xCx p R s m args c own cc nL G lo n tg) (K : ∀ pc ls st h, k pc ls st h = some r → xJ p l e R s m args below meth c nL G lo n Q pc ls st h) {v : Nat} {z : Int32} {fl : Bool} (hl : (if fl then Cond.fieldLink own v "java/lang/String" "coder" "B" else Cond.fieldLink own v "java/lang/String" "value" "[B") ∈ xTs) (hz : fl = true → z = 0) (hd : decode cc pc = .ok (.getfield v, 3)) (hn : nx = pc + 3) (hk : (xsR st fun t o st => xgd (Nat.beq t 5) (if fl then k nx ls (xI z :: st) h else k nx ls (xR 9 (o + 0) :: st) h)) = some r) : xJ p l e R s m args below meth c nL G lo n Q pc ls st h := by
  obtain ⟨hx, hb, hml, hown, hts, hKK, hBg, hGo, hfr, hlo⟩ := id Cx
  subst hn
  intro H locs lsA ho hs hP hS hL
  obtain ⟨t, o, u, hst, hk2⟩ := xsR_i hk
  subst hst
  obtain ⟨hg, hk3⟩ := xgd_i hk2
  have ht := xb_t hg
  subst ht
  have ho16 : o < 16 := by
    rcases (xoks_c.mp hs).1 with q | q | q | q | q
    · cases q
    · cases q.1
    · exact q.2
    · cases q.1
    · exact absurd rfl q.2.2.2.2.1
  obtain ⟨-, b2, b3, -⟩ := hBg.2.2.2.2.1 o ho16
  rw [List.map_cons, xcv_R (by decide)]
  show W p l e R s m args below meth c H locs 0 0 Q (F0 m pc lsA (.ref (gas G o) :: u.map (xcv G)))
  cases fl with
  | true =>
    have hz := hz rfl
    subst hz
    obtain ⟨cf, kx, fi, f, cell, h1, h2, h3, h4, h5, h6⟩ := b2.kept hS.2.1
    exact W.getf hx hb hown (hts _ hl) h1 h2 h3 h4 (v := .int 0) h5 rfl rfl hd (K _ _ _ _ hk3 H locs lsA ho (xoks_I (xoks_t hs)) hP hS hL)
  | false =>
    obtain ⟨cf, kx, fi, f, cell, h1, h2, h3, h4, h5, h6⟩ := b3.kept hS.2.1
    have h9 := K _ _ _ _ hk3 H locs lsA ho (xoks_c.mpr ⟨Or.inr (Or.inr (Or.inr (Or.inl ⟨rfl, ho16⟩))), xoks_t hs⟩) hP hS hL
    exact W.getf hx hb hown (hts _ hl) h1 h2 h3 h4 (v := .ref (gav G o)) h5 rfl rfl hd h9
theorem xj_put (Cx : xCx p R s m args c own cc nL G lo n tg) (K : ∀ pc ls st h, k pc ls st h = some r → xJ p l e R s m args below meth c nL G lo n Q pc ls st h) {a b v cb : Nat} {q : vw_C} {sw : List (Int32 × Nat)} (hf : xfk sw own v a b = true) (hq : xat (fsX a) b = some (0, 0, 0)) (hqc : xat clX (a - 16) = some q) (hfin : (q.2.1 b).2.2.2 = false) (hty : (q.2.1 b).2.2.1 = (if cb = 0 then "I" else "Z")) (hd : decode cc pc = .ok (.putfield v, 3)) (hn : nx = pc + 3) (hk : (xsIR st fun x t o st => xgd (Nat.beq t a) (xgd (Nat.beq cb 0 || xb01 x) (k nx ls st (xup h o b x)))) = some r) : xJ p l e R s m args below meth c nL G lo n Q pc ls st h := by
  obtain ⟨hx, hb, hml, hown, hts, hKK, hBg, hGo, hfr, hlo⟩ := id Cx
  subst hn
  intro H locs lsA ho hs hP hS hL
  obtain ⟨x, t, o, u, hst, hk2⟩ := xsIR_i hk
  subst hst
  obtain ⟨hg, hk3⟩ := xgd_i hk2
  obtain ⟨hg2, hk4⟩ := xgd_i hk3
  have ht := xb_t hg
  subst ht
  obtain ⟨h16, q', hqc', hbn, hlk⟩ := xfk_s hf
  have e := Option.some.inj (hqc'.symm.trans hqc)
  subst e
  obtain ⟨c1, ⟨ty0, c2⟩, c3, c4, c5⟩ := clX_ok _ _ hqc
  obtain ⟨r1, r2, r3⟩ := xrf_in (xoks_c.mp (xoks_t hs)).1 (by omega) (by omega) (by omega) (by omega)
  have hat := xwd_at G h r1 r2
  rw [xen_obj (by omega), r3] at hat
  rw [xat_get] at hq
  have hset : (xwd G lo n h).set (o - lo) (gad G o, .inr (t - 16, (xfl G h o 0 (fsX t)).set b (.int x))) = xwd G lo n (xup h o b x) := by
    rw [← xwd_set G r1 r2 (fun p hp => xup_o hp), xen_obj (by omega), r3, xfl_set _ _ (Nat.zero_le _) (fun z hz => by rw [Nat.sub_zero, hq] at hz; cases hz; rfl), Nat.sub_zero]
  have hlen : b < (xfl G h o 0 (fsX t)).length := by
    rw [xfl_len]
    exact (List.getElem?_eq_some_iff.mp hq).1
  have hnf : ∃ ty, parseFieldDescriptor (q'.2.1 b).2.2.1 = some ty ∧ narrow ty (.int x) = .int x ∧ fits ty (.int x) = true := by
    by_cases hc : cb = 0
    · exact ⟨.int, by rw [hty, if_pos hc]; decide +kernel, rfl, rfl⟩
    · refine ⟨.boolean, by rw [hty, if_neg hc]; decide +kernel, ?_⟩
      have h01 : x = 0 ∨ x = 1 := by
        rw [Bool.or_eq_true] at hg2
        rcases hg2 with z | z
        · exact absurd (xb_t z) hc
        · exact xb01_n z
      rcases h01 with z | z <;> subst z <;> exact ⟨rfl, rfl⟩
  obtain ⟨ty, n1, n2, n3⟩ := hnf
  rw [List.map_cons, List.map_cons, xcv_R (by omega), xadr_ad (by omega) (by omega) (by omega)]
  refine va_put (tys := xtys G tg) (v := .int x) hx hb hts c1 ty0 c2 c3 hown hKK hP (xGo_D hGo h) hS (o - lo) hat c4 b hbn (hts _ hlk) (fun _ z => z) hfin n1 n2 n3 hlen hd (fun H1 locs1 hP1 _ hS1 => ?_)
  rw [hset] at hP1
  exact K _ _ _ _ hk4 H1 locs1 lsA ho (xoks_t (xoks_t hs)) hP1 hS1 hL
theorem xj_gets (Cx : xCx p R s m args c own cc nL G lo n tg) (K : ∀ pc ls st h, k pc ls st h = some r → xJ p l e R s m args below meth c nL G lo n Q pc ls st h) {v : Nat} {C f dsc : String} {w : xV} (hZ : va_Z C f dsc (xcv G w) (xA G lo n) s s.heap) (hw : xok lo n w) (hl : Cond.fieldLink own v C f dsc ∈ xTs) (hd : decode cc pc = .ok (.getstatic v, 3)) (hn : nx = pc + 3) (hk : (k nx ls (w :: st) h) = some r) : xJ p l e R s m args below meth c nL G lo n Q pc ls st h := by
  obtain ⟨hx, hb, hml, hown, hts, hKK, hBg, hGo, hfr, hlo⟩ := id Cx
  subst hn
  intro H locs lsA ho hs hP hS hL
  exact va_gets hx hb hZ hS hown (hts _ hl) (fun _ z => z) hd (K _ _ _ _ hk H locs lsA ho (xoks_c.mpr ⟨hw, hs⟩) hP hS hL)
theorem xen_ar {G : xG} {h : xH} {o : Nat} (ht : kdX o = 1 ∨ kdX o = 2 ∨ kdX o = 3) : xen G h o = .inl (gcl G (kdX o), (lenX o, .inl (h o))) := by
  unfold xen
  rcases ht with e | e | e <;> simp [e]
theorem xen_set {G : xG} {h : xH} {o k : Nat} {v : Int32} (ht : kdX o = 1 ∨ kdX o = 2 ∨ kdX o = 3) : xen G (xup h o k v) o = .inl (gcl G (kdX o), (lenX o, .inl (upd (h o) k v))) := by
  rw [xen_ar ht]
  congr 4
  funext j
  by_cases q : j = k <;> simp [xup, upd, q]
theorem xj_iald (Cx : xCx p R s m args c own cc nL G lo n tg) (K : ∀ pc ls st h, k pc ls st h = some r → xJ p l e R s m args below meth c nL G lo n Q pc ls st h) (hd : decode cc pc = .ok (.iaload, 1)) (hn : nx = pc + 1) (hk : (xsIR st fun i t o st => bif Nat.beq t 1 then xnb i (lenX o) (k nx ls (xI (h o i.toNatClampNeg) :: st) h) else xgd (Nat.beq t 4) (xnb i (klX o) (k nx ls (xI (kcX o i.toNatClampNeg) :: st) h))) = some r) : xJ p l e R s m args below meth c nL G lo n Q pc ls st h := by
  obtain ⟨hx, hb, hml, hown, hts, hKK, hBg, hGo, hfr, hlo⟩ := id Cx
  subst hn
  intro H locs lsA ho hs hP hS hL
  obtain ⟨i, t, o, u, hst, hk2⟩ := xsIR_i hk
  subst hst
  cases hb1 : Nat.beq t 1 with
  | true =>
    rw [hb1] at hk2
    obtain ⟨hin, hk3⟩ := xnb_i hk2
    have ht := xb_t hb1
    subst ht
    obtain ⟨r1, r2, r3⟩ := xrf_in (xoks_c.mp (xoks_t hs)).1 (by omega) (by omega) (by omega) (by omega)
    have hat := xwd_at G h r1 r2
    rw [xen_ar (Or.inl r3), r3] at hat
    obtain ⟨t0, ht0⟩ := xtys_at (G := G) ((hGo.2.2 o r1 r2).2.1 (by omega))
    rw [r3] at ht0
    exact va_iald hx hb hKK hP (o - lo) t0 hat ht0 hin hd (K _ _ _ _ hk3 H locs lsA ho (xoks_I (xoks_t (xoks_t hs))) hP hS hL)
  | false =>
    rw [hb1] at hk2
    obtain ⟨hg, hk4⟩ := xgd_i hk2
    obtain ⟨hin, hk5⟩ := xnb_i hk4
    have ht := xb_t hg
    subst ht
    have ho4 : o < 4 := by
      rcases (xoks_c.mp (xoks_t hs)).1 with q | q | q | q | q
      · cases q
      · exact q.2
      · cases q.1
      · cases q.1
      · exact absurd rfl q.2.2.2.1
    exact va_ti hx hb (hBg.1 o ho4) hS hin rfl hd (K _ _ _ _ hk5 H locs lsA ho (xoks_I (xoks_t (xoks_t hs))) hP hS hL)
theorem xj_iast (Cx : xCx p R s m args c own cc nL G lo n tg) (K : ∀ pc ls st h, k pc ls st h = some r → xJ p l e R s m args below meth c nL G lo n Q pc ls st h) (hd : decode cc pc = .ok (.iastore, 1)) (hn : nx = pc + 1) (hk : (xsIIR st fun x i t o st => xgd (Nat.beq t 1) (xnb i (lenX o) (k nx ls st (xup h o i.toNatClampNeg x)))) = some r) : xJ p l e R s m args below meth c nL G lo n Q pc ls st h := by
  obtain ⟨hx, hb, hml, hown, hts, hKK, hBg, hGo, hfr, hlo⟩ := id Cx
  subst hn
  intro H locs lsA ho hs hP hS hL
  obtain ⟨x, i, t, o, u, hst, hk2⟩ := xsIIR_i hk
  subst hst
  obtain ⟨hg, hk3⟩ := xgd_i hk2
  obtain ⟨hin, hk4⟩ := xnb_i hk3
  have ht := xb_t hg
  subst ht
  obtain ⟨r1, r2, r3⟩ := xrf_in (xoks_c.mp (xoks_t (xoks_t hs))).1 (by omega) (by omega) (by omega) (by omega)
  have hat := xwd_at G h r1 r2
  rw [xen_ar (Or.inl r3)] at hat
  obtain ⟨t0, ht0⟩ := xtys_at (G := G) ((hGo.2.2 o r1 r2).2.1 (by omega))
  have ht0 : (xtys G tg)[t0]? = some (gcl G (kdX o), .int) := by rw [ht0, r3]; rfl
  refine va_iast hx hb hKK hP (xGo_D hGo h) hS (o - lo) t0 hat ht0 hin hd (fun H1 locs1 hP1 _ hS1 => ?_)
  rw [← xen_set (Or.inl r3), xwd_set G r1 r2 (fun p hp => xup_o hp)] at hP1
  exact K _ _ _ _ hk4 H1 locs1 lsA ho (xoks_t (xoks_t (xoks_t hs))) hP1 hS1 hL
theorem xj_bald (Cx : xCx p R s m args c own cc nL G lo n tg) (K : ∀ pc ls st h, k pc ls st h = some r → xJ p l e R s m args below meth c nL G lo n Q pc ls st h) (hd : decode cc pc = .ok (.baload, 1)) (hn : nx = pc + 1) (hk : (xsIR st fun i t o st => bif Nat.beq t 2 || Nat.beq t 3 then xnb i (lenX o) (k nx ls (xI (h o i.toNatClampNeg) :: st) h) else xgd (Nat.beq t 9) (xnb i (slX o) (k nx ls (xI (sbX o i.toNatClampNeg) :: st) h))) = some r) : xJ p l e R s m args below meth c nL G lo n Q pc ls st h := by
  obtain ⟨hx, hb, hml, hown, hts, hKK, hBg, hGo, hfr, hlo⟩ := id Cx
  subst hn
  intro H locs lsA ho hs hP hS hL
  obtain ⟨i, t, o, u, hst, hk2⟩ := xsIR_i hk
  subst hst
  cases hb1 : (Nat.beq t 2 || Nat.beq t 3) with
  | true =>
    rw [hb1] at hk2
    obtain ⟨hin, hk3⟩ := xnb_i hk2
    rw [Bool.or_eq_true] at hb1
    have ht : t = 2 ∨ t = 3 := hb1.imp xb_t xb_t
    obtain ⟨r1, r2, r3⟩ := xrf_in (xoks_c.mp (xoks_t hs)).1 (by omega) (by omega) (by omega) (by omega)
    have hat := xwd_at G h r1 r2
    rw [xen_ar (Or.inr (by omega)), r3] at hat
    obtain ⟨t0, ht0⟩ := xtys_at (G := G) ((hGo.2.2 o r1 r2).2.1 (by omega))
    rw [r3] at ht0
    have h9 := K _ _ _ _ hk3 H locs lsA ho (xoks_I (xoks_t (xoks_t hs))) hP hS hL
    rw [List.map_cons, List.map_cons, xcv_R (by omega), xadr_ad (by omega) (by omega) (by omega)]
    rcases ht with ht | ht
    · subst ht
      exact va_bald hx hb hKK hP (o - lo) t0 hat ht0 hin hd h9
    · subst ht
      exact va_zald hx hb hKK hP (o - lo) t0 hat ht0 hin hd h9
  | false =>
    rw [hb1] at hk2
    obtain ⟨hg, hk4⟩ := xgd_i hk2
    obtain ⟨hin, hk5⟩ := xnb_i hk4
    have ht := xb_t hg
    subst ht
    have ho16 : o < 16 := by
      rcases (xoks_c.mp (xoks_t hs)).1 with q | q | q | q | q
      · cases q
      · cases q.1
      · cases q.1
      · exact q.2
      · exact absurd rfl q.2.2.2.2.2
    exact va_tb hx hb (hBg.2.2.2.2.1 o ho16).2.2.2 hS hin rfl hd (K _ _ _ _ hk5 H locs lsA ho (xoks_I (xoks_t (xoks_t hs))) hP hS hL)
theorem xj_bast (Cx : xCx p R s m args c own cc nL G lo n tg) (K : ∀ pc ls st h, k pc ls st h = some r → xJ p l e R s m args below meth c nL G lo n Q pc ls st h) (hd : decode cc pc = .ok (.bastore, 1)) (hn : nx = pc + 1) (hk : (xsIIR st fun x i t o st => bif Nat.beq t 2 then xnb i (lenX o) (k nx ls st (xup h o i.toNatClampNeg x.toInt8.toInt32)) else xgd (Nat.beq t 3 && xb01 x) (xnb i (lenX o) (k nx ls st (xup h o i.toNatClampNeg x)))) = some r) : xJ p l e R s m args below meth c nL G lo n Q pc ls st h := by
  obtain ⟨hx, hb, hml, hown, hts, hKK, hBg, hGo, hfr, hlo⟩ := id Cx
  subst hn
  intro H locs lsA ho hs hP hS hL
  obtain ⟨x, i, t, o, u, hst, hk2⟩ := xsIIR_i hk
  subst hst
  have go : ∀ x', (t = 2 ∧ x' = vp_nar .byte x) ∨ (t = 3 ∧ x' = vp_nar .boolean x) → vp_in i (lenX o) → k (pc + 1) ls u (xup h o i.toNatClampNeg x') = some r → W p l e R s m args below meth c H locs 0 0 Q (F0 m pc lsA (List.map (xcv G) (xI x :: xI i :: xR t o :: u))) := by
    intro x' hx' hin hk3
    have ht : t = 2 ∨ t = 3 := hx'.imp And.left And.left
    obtain ⟨r1, r2, r3⟩ := xrf_in (xoks_c.mp (xoks_t (xoks_t hs))).1 (by omega) (by omega) (by omega) (by omega)
    have hk3' : kdX o = 1 ∨ kdX o = 2 ∨ kdX o = 3 := Or.inr (by omega)
    have hat := xwd_at G h r1 r2
    rw [xen_ar hk3'] at hat
    obtain ⟨t0, ht0⟩ := xtys_at (G := G) ((hGo.2.2 o r1 r2).2.1 (by omega))
    rw [List.map_cons, List.map_cons, List.map_cons, xcv_R (by omega), xadr_ad (by omega) (by omega) (by omega)]
    rcases hx' with ⟨e1, e2⟩ | ⟨e1, e2⟩
    · have ht0 : (xtys G tg)[t0]? = some (gcl G (kdX o), .byte) := by rw [ht0, r3, e1]; rfl
      refine va_bast hx hb hKK hP (xGo_D hGo h) hS (o - lo) t0 hat ht0 hin hd (fun H1 locs1 hP1 _ hS1 => ?_)
      rw [← e2, ← xen_set hk3', xwd_set G r1 r2 (fun p hp => xup_o hp)] at hP1
      exact K _ _ _ _ hk3 H1 locs1 lsA ho (xoks_t (xoks_t (xoks_t hs))) hP1 hS1 hL
    · have ht0 : (xtys G tg)[t0]? = some (gcl G (kdX o), .boolean) := by rw [ht0, r3, e1]; rfl
      refine va_zast hx hb hKK hP (xGo_D hGo h) hS (o - lo) t0 hat ht0 hin hd (fun H1 locs1 hP1 _ hS1 => ?_)
      rw [← e2, ← xen_set hk3', xwd_set G r1 r2 (fun p hp => xup_o hp)] at hP1
      exact K _ _ _ _ hk3 H1 locs1 lsA ho (xoks_t (xoks_t (xoks_t hs))) hP1 hS1 hL
  cases hb1 : Nat.beq t 2 with
  | true =>
    rw [hb1] at hk2
    obtain ⟨hin, hk3⟩ := xnb_i hk2
    exact go _ (Or.inl ⟨xb_t hb1, (vp_nar_byte x).symm⟩) hin hk3
  | false =>
    rw [hb1] at hk2
    obtain ⟨hg, hk4⟩ := xgd_i hk2
    obtain ⟨hin, hk5⟩ := xnb_i hk4
    rw [Bool.and_eq_true] at hg
    have e : vp_nar .boolean x = x := by
      rcases xb01_n hg.2 with z | z <;> subst z <;> rfl
    exact go _ (Or.inr ⟨xb_t hg.1, e.symm⟩) hin hk5
theorem xj_aald (Cx : xCx p R s m args c own cc nL G lo n tg) (K : ∀ pc ls st h, k pc ls st h = some r → xJ p l e R s m args below meth c nL G lo n Q pc ls st h) (hd : decode cc pc = .ok (.aaload, 1)) (hn : nx = pc + 1) (hk : (xsIR st fun i t o st => bif Nat.beq t 6 then xnb i (lenX o) (k nx ls (xR 24 (o + 1 + 2 * i.toNatClampNeg) :: st) h) else xgd (Nat.beq t 7) (xnb i (lenX o) (k nx ls (xR 5 (scX o i.toNatClampNeg) :: st) h))) = some r) : xJ p l e R s m args below meth c nL G lo n Q pc ls st h := by
  obtain ⟨hx, hb, hml, hown, hts, hKK, hBg, hGo, hfr, hlo⟩ := id Cx
  subst hn
  intro H locs lsA ho hs hP hS hL
  obtain ⟨i, t, o, u, hst, hk2⟩ := xsIR_i hk
  subst hst
  cases hb1 : Nat.beq t 6 with
  | true =>
    rw [hb1] at hk2
    obtain ⟨hin, hk3⟩ := xnb_i hk2
    have ht := xb_t hb1
    subst ht
    obtain ⟨r1, r2, r3⟩ := xrf_in (xoks_c.mp (xoks_t hs)).1 (by omega) (by omega) (by omega) (by omega)
    have hat := xwd_at G h r1 r2
    have e : xen G h o = .inl (gcl G 6, (lenX o, .inr (.inr (.inr (.inr (fun i => some (gad G (o + 1 + 2 * i)))))))) := by
      unfold xen; simp [r3]
    rw [e] at hat
    obtain ⟨t0, ht0⟩ := xtys_at (G := G) ((hGo.2.2 o r1 r2).2.1 (by omega))
    rw [r3] at ht0
    have hlt : i.toNatClampNeg < lenX o := Nat.not_le.mp fun q => hin (Or.inr q)
    obtain ⟨l1, l2, l3⟩ := (hGo.2.2 o r1 r2).2.2.2.1 r3 _ hlt
    have h9 := K _ _ _ _ hk3 H locs lsA ho (xoks_c.mpr ⟨Or.inr (Or.inr (Or.inr (Or.inr ⟨l1, l2, l3, by omega, by omega, by omega⟩))), xoks_t (xoks_t hs)⟩) hP hS hL
    exact va_aldq hx hb hKK hP (o - lo) t0 hat ht0 hin hd h9
  | false =>
    rw [hb1] at hk2
    obtain ⟨hg, hk4⟩ := xgd_i hk2
    obtain ⟨hin, hk5⟩ := xnb_i hk4
    have ht := xb_t hg
    subst ht
    obtain ⟨r1, r2, r3⟩ := xrf_in (xoks_c.mp (xoks_t hs)).1 (by omega) (by omega) (by omega) (by omega)
    have hat := xwd_at G h r1 r2
    have e : xen G h o = .inl (gcl G 7, (lenX o, .inr (.inr (.inr (.inr (fun i => some (gas G (scX o i)))))))) := by
      unfold xen; simp [r3]
    rw [e] at hat
    obtain ⟨t0, ht0⟩ := xtys_at (G := G) ((hGo.2.2 o r1 r2).2.1 (by omega))
    rw [r3] at ht0
    have hlt : i.toNatClampNeg < lenX o := Nat.not_le.mp fun q => hin (Or.inr q)
    have l1 := (hGo.2.2 o r1 r2).2.2.2.2.1 r3 _ hlt
    have h9 := K _ _ _ _ hk5 H locs lsA ho (xoks_c.mpr ⟨Or.inr (Or.inr (Or.inl ⟨rfl, l1⟩)), xoks_t (xoks_t hs)⟩) hP hS hL
    exact va_aldq hx hb hKK hP (o - lo) t0 hat ht0 hin hd h9
theorem xj_alen (Cx : xCx p R s m args c own cc nL G lo n tg) (K : ∀ pc ls st h, k pc ls st h = some r → xJ p l e R s m args below meth c nL G lo n Q pc ls st h) (hd : decode cc pc = .ok (.arraylength, 1)) (hn : nx = pc + 1) (hk : (xsR st fun t o st => bif Nat.beq t 9 then k nx ls (xI (nI (slX o)) :: st) h else xgd (Nat.beq t 1 || Nat.beq t 7) (k nx ls (xI (nI (lenX o)) :: st) h)) = some r) : xJ p l e R s m args below meth c nL G lo n Q pc ls st h := by
  obtain ⟨hx, hb, hml, hown, hts, hKK, hBg, hGo, hfr, hlo⟩ := id Cx
  subst hn
  intro H locs lsA ho hs hP hS hL
  obtain ⟨t, o, u, hst, hk2⟩ := xsR_i hk
  subst hst
  cases hb1 : Nat.beq t 9 with
  | true =>
    rw [hb1] at hk2
    have ht := xb_t hb1
    subst ht
    have ho16 : o < 16 := by
      rcases (xoks_c.mp hs).1 with q | q | q | q | q
      · cases q
      · cases q.1
      · cases q.1
      · exact q.2
      · exact absurd rfl q.2.2.2.2.2
    exact va_tlen hx hb (hBg.2.2.2.2.1 o ho16).2.2.2 hS rfl hd (K _ _ _ _ hk2 H locs lsA ho (xoks_I (xoks_t hs)) hP hS hL)
  | false =>
    rw [hb1] at hk2
    obtain ⟨hg, hk3⟩ := xgd_i hk2
    rw [Bool.or_eq_true] at hg
    have ht : t = 1 ∨ t = 7 := hg.imp xb_t xb_t
    obtain ⟨r1, r2, r3⟩ := xrf_in (xoks_c.mp hs).1 (by omega) (by omega) (by omega) (by omega)
    have hat := xwd_at G h r1 r2
    obtain ⟨t0, ht0⟩ := xtys_at (G := G) ((hGo.2.2 o r1 r2).2.1 (by omega))
    rw [List.map_cons, xcv_R (by omega), xadr_ad (by omega) (by omega) (by omega)]
    have h9 := K _ _ _ _ hk3 H locs lsA ho (xoks_I (xoks_t hs)) hP hS hL
    rcases ht with ht | ht
    · subst ht
      rw [xen_ar (Or.inl r3)] at hat
      exact va_alen hx hb hKK hP (o - lo) t0 hat ht0 rfl hd h9
    · subst ht
      have e : xen G h o = .inl (gcl G 7, (lenX o, .inr (.inr (.inr (.inr (fun i => some (gas G (scX o i)))))))) := by
        unfold xen; simp [r3]
      rw [e] at hat
      rw [r3] at ht0
      exact va_alen hx hb hKK hP (o - lo) t0 hat ht0 rfl hd h9
theorem xldcSw (hx : p.tables.exec = Jvm.exec) (hb : c.code = cc) {H : Heap} {locs : List Loc} {lsA : Array Slot} {rest : List Value} {tx : String} {index q : Nat} (hown : s.vm.findClass own = some m.cls) (hZ : vk_R own index tx q s) (hdg : decode cc pc = .ok (.ldc_w index, 3))
    (kk : W p l e R s m args below meth c H locs 0 0 Q (F0 m (pc + 3) lsA (.ref q :: rest))) : W p l e R s m args below meth c H locs 0 0 Q (F0 m pc lsA rest) := by
  intro T hT X
  obtain ⟨t, a1, b1⟩ := kk T hT X
  refine ⟨t, ?_, b1⟩
  obtain ⟨kx, cf, i, a', hk, hcf, hcp, -, hr, hev'⟩ := Cond.stringRef_spec hown hZ.1
  have hev : (Term.string own index).eval #[] s none [] s = some (.ref q) := hZ.2
  cases hev.symm.trans hev'
  obtain ⟨k', hk', he⟩ := X.warmed.alike.2.2 _ _ hk
  have hr' : k'.resolved[index]? = some (some (.string q)) := by
    rcases X.warmed.entry hk hk' index with h | ⟨h, -⟩
    · rw [h]; exact hr
    · rw [hr] at h; cases h
  subst hb
  jvm_step X.here [hx, hdg, ldc_w.wp_string (e := e) (s := T) (f := F0 m pc lsA rest) X.here.top hk' (by rw [he]; exact hcf) hcp hr']
  exact a1
theorem xj_ldc (Cx : xCx p R s m args c own cc nL G lo n tg) (K : ∀ pc ls st h, k pc ls st h = some r → xJ p l e R s m args below meth c nL G lo n Q pc ls st h) {b v : Nat} (hb16 : b < 16) (h1 : (xnd ("", 0, "") stR b).1 = own) (h2 : (xnd ("", 0, "") stR b).2.1 = v) (hd : decode cc pc = .ok (.ldc v, 2)) (hn : nx = pc + 2) (hk : (k nx ls (xR 5 b :: st) h) = some r) : xJ p l e R s m args below meth c nL G lo n Q pc ls st h := by
  obtain ⟨hx, hb, hml, hown, hts, hKK, hBg, hGo, hfr, hlo⟩ := id Cx
  subst hn
  intro H locs lsA ho hs hP hS hL
  have hZ := hBg.2.2.2.2.2.1 b hb16
  rw [h1, h2] at hZ
  exact va_ldcS hx hb hown hZ hd (K _ _ _ _ hk H locs lsA ho (xoks_c.mpr ⟨Or.inr (Or.inr (Or.inl ⟨rfl, hb16⟩)), hs⟩) hP hS hL)
theorem xj_ldc_w (Cx : xCx p R s m args c own cc nL G lo n tg) (K : ∀ pc ls st h, k pc ls st h = some r → xJ p l e R s m args below meth c nL G lo n Q pc ls st h) {b v : Nat} (hb16 : b < 16) (h1 : (xnd ("", 0, "") stR b).1 = own) (h2 : (xnd ("", 0, "") stR b).2.1 = v) (hd : decode cc pc = .ok (.ldc_w v, 3)) (hn : nx = pc + 3) (hk : (k nx ls (xR 5 b :: st) h) = some r) : xJ p l e R s m args below meth c nL G lo n Q pc ls st h := by
  obtain ⟨hx, hb, hml, hown, hts, hKK, hBg, hGo, hfr, hlo⟩ := id Cx
  subst hn
  intro H locs lsA ho hs hP hS hL
  have hZ := hBg.2.2.2.2.2.1 b hb16
  rw [h1, h2] at hZ
  exact xldcSw hx hb hown hZ hd (K _ _ _ _ hk H locs lsA ho (xoks_c.mpr ⟨Or.inr (Or.inr (Or.inl ⟨rfl, hb16⟩)), hs⟩) hP hS hL)
theorem xj_ldc2 (Cx : xCx p R s m args c own cc nL G lo n tg) (K : ∀ pc ls st h, k pc ls st h = some r → xJ p l e R s m args below meth c nL G lo n Q pc ls st h) {a v : Nat} (hl : Cond.constantLong own v (Int64.ofNat a) ∈ xTs) (hd : decode cc pc = .ok (.ldc2_w v, 3)) (hn : nx = pc + 3) (hk : (k nx ls (xL (Int64.ofNat a) :: st) h) = some r) : xJ p l e R s m args below meth c nL G lo n Q pc ls st h := by
  obtain ⟨hx, hb, hml, hown, hts, hKK, hBg, hGo, hfr, hlo⟩ := id Cx
  subst hn
  intro H locs lsA ho hs hP hS hL
  exact lv_ldc2 hx hb hown (hts _ hl) hd (K _ _ _ _ hk H locs lsA ho (xoks_L hs) hP hS hL)
theorem xj_tsw (Cx : xCx p R s m args c own cc nL G lo n tg) (K : ∀ pc ls st h, k pc ls st h = some r → xJ p l e R s m args below meth c nL G lo n Q pc ls st h) {a : Nat} {f u v : Int} {os : Array Int} {sw : List (Int32 × Nat)} (ht : (pc : Int) + f = (a : Int)) (hsz : os.size = (v - u + 1).toNat) (hal : ∀ q ∈ sw, u ≤ q.1.toInt ∧ q.1.toInt ≤ v) (hos : ∀ j, j < os.size → ∃ o, os[j]? = some o ∧ (pc : Int) + o = (xst (u + (j : Int)) a sw : Int)) (hd : decode cc pc = .ok (.tableswitch f u v os, nx - pc)) (hk : (xs1 st fun x st => xsw x (fun t => k t ls st h) a sw) = some r) : xJ p l e R s m args below meth c nL G lo n Q pc ls st h := by
  obtain ⟨hx, hb, hml, hown, hts, hKK, hBg, hGo, hfr, hlo⟩ := id Cx
  intro H locs lsA ho hs hP hS hL
  obtain ⟨x, w, hst, hk2⟩ := xs1_i hk
  subst hst
  rw [xsw_st] at hk2
  have h9 := K _ _ _ _ hk2 H locs lsA ho (xoks_t hs) hP hS hL
  by_cases h1 : x.toInt < u ∨ v < x.toInt
  · rw [xst_out sw (fun q hq e => by have := hal q hq; omega)] at h9
    exact lv_tableOut hx hb hd h1 ht h9
  · have hj : (x.toInt - u).toNat < os.size := by omega
    obtain ⟨o, e1, e2⟩ := hos _ hj
    rw [show u + ((x.toInt - u).toNat : Int) = x.toInt by omega] at e2
    exact lv_tableIn hx hb hd (fun q => h1 (Or.inl q)) (fun q => h1 (Or.inr q)) e1 e2 h9
theorem xlo_st {pc a : Nat} {f : Int} (ht : (pc : Int) + f = (a : Int)) {x : Int} : ∀ (sw : List (Int32 × Nat)), (pc : Int) + Op.lookupswitch.offset (sw.map (fun q => (q.1.toInt, (q.2 : Int) - (pc : Int)))) f x = (xst x a sw : Int) := by
  intro sw
  induction sw with
  | nil => exact ht
  | cons q sw ih =>
    obtain ⟨v, t⟩ := q
    rw [List.map_cons, Op.lookupswitch.offset_cons, xst]
    by_cases e : x = v.toInt
    · rw [if_pos (show (v, t).1.toInt = x from e.symm), if_pos e]
      show (pc : Int) + ((t : Int) - (pc : Int)) = (t : Int)
      omega
    · rw [if_neg (show ¬ (v, t).1.toInt = x from fun z => e z.symm), if_neg e]
      exact ih
theorem xj_lsw (Cx : xCx p R s m args c own cc nL G lo n tg) (K : ∀ pc ls st h, k pc ls st h = some r → xJ p l e R s m args below meth c nL G lo n Q pc ls st h) {a : Nat} {f : Int} {ps : Array (Int × Int)} {sw : List (Int32 × Nat)} (ht : (pc : Int) + f = (a : Int)) (hp : (ps.toList.zip (ps.toList.drop 1)).all (fun (a, next) => a.1 < next.1) = true) (hps : ps.toList = sw.map (fun q => (q.1.toInt, (q.2 : Int) - (pc : Int)))) (hd : decode cc pc = .ok (.lookupswitch f ps, nx - pc)) (hk : (xs1 st fun x st => xsw x (fun t => k t ls st h) a sw) = some r) : xJ p l e R s m args below meth c nL G lo n Q pc ls st h := by
  obtain ⟨hx, hb, hml, hown, hts, hKK, hBg, hGo, hfr, hlo⟩ := id Cx
  intro H locs lsA ho hs hP hS hL
  obtain ⟨x, w, hst, hk2⟩ := xs1_i hk
  subst hst
  rw [xsw_st] at hk2
  have h9 := K _ _ _ _ hk2 H locs lsA ho (xoks_t hs) hP hS hL
  have e := xlo_st ht (x := x.toInt) sw
  rw [← hps] at e
  exact lv_lookup hx hb hd hp rfl e h9
end
