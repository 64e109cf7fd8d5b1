/-! SOUNDNESS OF THE PURE MACHINE, part 5: any operation; a run; a method; all methods -/
theorem xand {a b : Bool} (h : (a && b) = true) : a = true ∧ b = true := by
  rwa [Bool.and_eq_true] at h
theorem xdec {P : Prop} {D : Decidable P} (h : @decide P D = true) : P := of_decide_eq_true h
theorem xsys : (Cond.static Lib.Math.max.name ∈ xTs ∧ Cond.initialized "java/lang/Math" ∈ xTs ∧ Cond.code Lib.Math.max.name Lib.Math.max.code 2 (some .int) ∈ xTs) ∧ (Cond.static Lib.Math.min.name ∈ xTs ∧ Cond.code Lib.Math.min.name Lib.Math.min.code 2 (some .int) ∈ xTs) ∧ (Cond.native arraycopyName ∈ xTs ∧ Cond.static arraycopyName ∈ xTs ∧ Cond.initialized "java/lang/System" ∈ xTs) :=
  ⟨⟨xin_mem (by decide +kernel), xin_mem (by decide +kernel), xin_mem (by decide +kernel)⟩, ⟨xin_mem (by decide +kernel), xin_mem (by decide +kernel)⟩, xin_mem (by decide +kernel), xin_mem (by decide +kernel), xin_mem (by decide +kernel)⟩
section

variable {p : Program} {l : Launch} {e : Env} {R : Room} {s : State} {m : MethodId} {args : Array Value} {below : List Frame} {meth : Method} {c : Code} {own : String} {cc : ByteArray} {nL : Nat} {G : xG} {lo n : Nat} {tg : List Nat} {Q : State → Prop} {rt : Option FieldType}
variable {pc nx : Nat} {ls : List (Option xV)} {st : List xV} {h : xH} {r : Int32 × xH} {k : Nat → List (Option xV) → List xV → xH → xO}

set_option maxHeartbeats 4000000 in
theorem xstp_J (Cx : xCx p R s m args c own cc nL G lo n tg) (K : ∀ pc ls st h, k pc ls st h = some r → xJ p l e R s m args below meth c nL G lo n Q pc ls st h) {op : xOp} {cl : Nat → List xV → xH → xO} {rm : Room} (hck : xck own rt cc nL pc op = true)
    (hcl : ∀ j y, xat xmi j = some y → ∀ as h v h', cl j as h = some (v, h') → xoks lo n as → xMet l G lo n tg rm y as h v h') (hno : ∀ as h, cl 9999 as h = none) (hrm : xRm R rm) (hmi : ∀ j y, xat xmi j = some y → xmOK y)
    (hRI : ∀ ty, rt = some ty → narrow ty (.int r.1) = .int r.1 → ∀ (pc : Nat) (H : Heap) (locs : List Loc) (lsA : Array Slot), decode cc pc = .ok (.ireturn, 1) → va_P (gD G) clX (xwd G lo n r.2) H → va_S (xA G lo n) s.heap H locs → W p l e R s m args below meth c H locs 0 0 Q (F0 m pc lsA [.int r.1]))
    (hRV : rt = none → ∀ (pc : Nat) (H : Heap) (locs : List Loc) (lsA : Array Slot), decode cc pc = .ok (.return_, 1) → va_P (gD G) clX (xwd G lo n r.2) H → va_S (xA G lo n) s.heap H locs → W p l e R s m args below meth c H locs 0 0 Q (F0 m pc lsA []))
    (hk : xstp XX cl op ls st h k = some r) : xJ p l e R s m args below meth c nL G lo n Q pc ls st h := by
  obtain ⟨i, nx, a, b, c0, d, z, sw⟩ := op
  cases i with
  | iadd => exact xj_iadd Cx K (xdc_s hck).1 (xdc_s hck).2 hk
  | isub => exact xj_isub Cx K (xdc_s hck).1 (xdc_s hck).2 hk
  | imul => exact xj_imul Cx K (xdc_s hck).1 (xdc_s hck).2 hk
  | iand => exact xj_iand Cx K (xdc_s hck).1 (xdc_s hck).2 hk
  | ior => exact xj_ior Cx K (xdc_s hck).1 (xdc_s hck).2 hk
  | ixor => exact xj_ixor Cx K (xdc_s hck).1 (xdc_s hck).2 hk
  | idiv => exact xj_idiv Cx K (xdc_s hck).1 (xdc_s hck).2 hk
  | irem => exact xj_irem Cx K (xdc_s hck).1 (xdc_s hck).2 hk
  | ineg => exact xj_ineg Cx K (xdc_s hck).1 (xdc_s hck).2 hk
  | ishl => exact xj_ishl Cx K (xdc_s hck).1 (xdc_s hck).2 hk
  | ishr => exact xj_ishr Cx K (xdc_s hck).1 (xdc_s hck).2 hk
  | iushr => exact xj_iushr Cx K (xdc_s hck).1 (xdc_s hck).2 hk
  | i2l => exact xj_i2l Cx K (xdc_s hck).1 (xdc_s hck).2 hk
  | l2i => exact xj_l2i Cx K (xdc_s hck).1 (xdc_s hck).2 hk
  | i2b => exact xj_i2b Cx K (xdc_s hck).1 (xdc_s hck).2 hk
  | i2s => exact xj_i2s Cx K (xdc_s hck).1 (xdc_s hck).2 hk
  | i2c => exact xj_i2c Cx K (xdc_s hck).1 (xdc_s hck).2 hk
  | land => exact xj_land Cx K (xdc_s hck).1 (xdc_s hck).2 hk
  | lshr => exact xj_lshr Cx K (xdc_s hck).1 (xdc_s hck).2 hk
  | lushr => exact xj_lushr Cx K (xdc_s hck).1 (xdc_s hck).2 hk
  | dup => exact xj_dup Cx K (xdc_s hck).1 (xdc_s hck).2 hk
  | dup2 => exact xj_dup2 Cx K (xdc_s hck).1 (xdc_s hck).2 hk
  | pop => exact xj_pop Cx K (xdc_s hck).1 (xdc_s hck).2 hk
  | iconst v => 
    obtain ⟨h1, h2⟩ := xand hck
    exact xj_iconst Cx K (xdc_s h1).1 (xdc_s h1).2 (xdec h2) hk
  | bipush v => 
    obtain ⟨h1, h2⟩ := xand hck
    exact xj_bipush Cx K (xdc_s h1).1 (xdc_s h1).2 (xdec h2) hk
  | sipush v => 
    obtain ⟨h1, h2⟩ := xand hck
    exact xj_sipush Cx K (xdc_s h1).1 (xdc_s h1).2 (xdec h2) hk
  | iload_n v => 
    obtain ⟨h1, h2⟩ := xand hck
    exact xj_iload_n Cx K (xdec h2) (xdc_s h1).1 (xdc_s h1).2 hk
  | iload v => 
    obtain ⟨h1, h2⟩ := xand hck
    exact xj_iload Cx K (xdec h2) (xdc_s h1).1 (xdc_s h1).2 hk
  | lload_n v => 
    obtain ⟨h1, h2⟩ := xand hck
    exact xj_lload_n Cx K (xdec h2) (xdc_s h1).1 (xdc_s h1).2 hk
  | aload_n v => 
    obtain ⟨h1, h2⟩ := xand hck
    exact xj_aload_n Cx K (xdec h2) (xdc_s h1).1 (xdc_s h1).2 hk
  | aload v => 
    obtain ⟨h1, h2⟩ := xand hck
    exact xj_aload Cx K (xdec h2) (xdc_s h1).1 (xdc_s h1).2 hk
  | istore_n v => 
    obtain ⟨h0, h3⟩ := xand hck
    obtain ⟨h1, h2⟩ := xand h0
    exact xj_istore_n Cx K (xdec h2) (xdec h3) (xdc_s h1).1 (xdc_s h1).2 hk
  | istore v => 
    obtain ⟨h0, h3⟩ := xand hck
    obtain ⟨h1, h2⟩ := xand h0
    exact xj_istore Cx K (xdec h2) (xdec h3) (xdc_s h1).1 (xdc_s h1).2 hk
  | astore_n v => 
    obtain ⟨h0, h3⟩ := xand hck
    obtain ⟨h1, h2⟩ := xand h0
    exact xj_astore_n Cx K (xdec h2) (xdec h3) (xdc_s h1).1 (xdc_s h1).2 hk
  | astore v => 
    obtain ⟨h0, h3⟩ := xand hck
    obtain ⟨h1, h2⟩ := xand h0
    exact xj_astore Cx K (xdec h2) (xdec h3) (xdc_s h1).1 (xdc_s h1).2 hk
  | iinc v u => 
    obtain ⟨h0, h4⟩ := xand hck
    obtain ⟨h0, h3⟩ := xand h0
    obtain ⟨h1, h2⟩ := xand h0
    have e : v = a := xdec h2
    subst e
    exact xj_iinc Cx K (xdec h3) (xdec h4) (xdc_s h1).1 (xdc_s h1).2 hk
  | if_icmp cd o => 
    obtain ⟨h1, h2⟩ := xand hck
    exact xj_icmp Cx K (xdec h2) (xdc_s h1).1 (xdc_s h1).2 hk
  | ifCond cd o => 
    obtain ⟨h1, h2⟩ := xand hck
    exact xj_ifc Cx K (xdec h2) (xdc_s h1).1 (xdc_s h1).2 hk
  | goto o => 
    obtain ⟨h1, h2⟩ := xand hck
    exact xj_goto Cx K (xdec h2) (xdc_s h1).1 hk
  | ldc v => 
    obtain ⟨h0, h4⟩ := xand hck
    obtain ⟨h0, h3⟩ := xand h0
    obtain ⟨h1, h2⟩ := xand h0
    exact xj_ldc Cx K (xdec h2) (xdec h3) (xdec h4) (xdc_s h1).1 (xdc_s h1).2 hk
  | ldc_w v => 
    obtain ⟨h0, h4⟩ := xand hck
    obtain ⟨h0, h3⟩ := xand h0
    obtain ⟨h1, h2⟩ := xand h0
    exact xj_ldc_w Cx K (xdec h2) (xdec h3) (xdec h4) (xdc_s h1).1 (xdc_s h1).2 hk
  | ldc2_w v => 
    obtain ⟨h1, h2⟩ := xand hck
    exact xj_ldc2 Cx K (xinp_mem h2) (xdc_s h1).1 (xdc_s h1).2 hk
  | tableswitch f u v os => 
    obtain ⟨h0, h5⟩ := xand hck
    obtain ⟨h0, h4⟩ := xand h0
    obtain ⟨h0, h3⟩ := xand h0
    obtain ⟨h1, h2⟩ := xand h0
    refine xj_tsw Cx K (xdec h2) (xdec h3) (fun q hq => ?_) (fun j hj => ?_) (xdec h1) hk
    · have h6 := List.all_eq_true.mp h4 q hq
      obtain ⟨h7, h8⟩ := xand h6
      exact ⟨xdec h7, xdec h8⟩
    · have h6 := List.all_eq_true.mp h5 j (List.mem_range.mpr hj)
      split at h6
      · rename_i o ho
        exact ⟨o, ho, xdec h6⟩
      · cases h6
  | lookupswitch f ps => 
    obtain ⟨h0, h4⟩ := xand hck
    obtain ⟨h0, h3⟩ := xand h0
    obtain ⟨h1, h2⟩ := xand h0
    exact xj_lsw Cx K (xdec h2) h3 (xdec h4) (xdec h1) hk
  | getfield v => 
    obtain ⟨h1, h2⟩ := xand hck
    by_cases ha : a = 5
    · subst ha
      rw [if_pos rfl] at h2
      by_cases hc0 : c0 = 98
      · subst hc0
        rw [if_pos rfl] at h2
        obtain ⟨h3, h4⟩ := xand h2
        exact xj_getS (fl := true) (z := z) Cx K (xinp_mem h4) (fun _ => xdec h3) (xdc_s h1).1 (xdc_s h1).2 hk
      · rw [if_neg hc0] at h2
        obtain ⟨h3, h4⟩ := xand h2
        obtain ⟨h5, h6⟩ := xand h3
        have e1 : c0 = 9 := xdec h5
        have e2 : d = 0 := xdec h6
        subst e1
        subst e2
        exact xj_getS (fl := false) (z := z) Cx K (xinp_mem h4) (fun q => by cases q) (xdc_s h1).1 (xdc_s h1).2 hk
    · rw [if_neg ha] at h2
      obtain ⟨h3, h4⟩ := xand h2
      by_cases hc0 : c0 = 0
      · subst hc0
        rw [if_pos rfl] at h4
        exact xj_getI Cx K h3 (xdec h4) (xdc_s h1).1 (xdc_s h1).2 hk
      · rw [if_neg hc0] at h4
        obtain ⟨h5, h6⟩ := xand h4
        refine xj_getR Cx K h3 (xdec h6) (xdc_s h1).1 (xdc_s h1).2 ?_
        have e1 : Nat.beq c0 0 = false := by
          cases q : Nat.beq c0 0 with
          | true => exact absurd (xb_t q) hc0
          | false => rfl
        have e2 : Nat.beq c0 98 = false := by
          cases q : Nat.beq c0 98 with
          | true => exact absurd (xb_t q) (xdec h5)
          | false => rfl
        have hk' : (xsR st fun t o st => xgd (Nat.beq t a) (bif Nat.beq c0 0 then k nx ls (xI (h o b) :: st) h else bif Nat.beq c0 98 then k nx ls (xI z :: st) h else k nx ls (xR c0 (o + d) :: st) h)) = some r := hk
        rw [e1, e2] at hk'
        exact hk'
  | putfield v => 
    obtain ⟨h0, h4⟩ := xand hck
    obtain ⟨h0, h3⟩ := xand h0
    obtain ⟨h1, h2⟩ := xand h0
    split at h4
    · cases h4
    · rename_i q hq
      obtain ⟨h5, h6⟩ := xand h4
      exact xj_put Cx K h2 (xdec h3) hq (xdec h5) (xdec h6) (xdc_s h1).1 (xdc_s h1).2 hk
  | getstatic v => 
    obtain ⟨h1, h2⟩ := xand hck
    obtain ⟨-, -, -, -, -, -, hBg, -⟩ := id Cx
    by_cases ha : a = 99
    · subst ha
      rw [if_pos rfl] at h2
      obtain ⟨h3, h4⟩ := xand h2
      have e : z = 1 := xdec h3
      subst e
      exact xj_gets (w := xI 1) Cx K hBg.2.2.1 trivial (xinp_mem h4) (xdc_s h1).1 (xdc_s h1).2 hk
    · rw [if_neg ha] at h2
      have e1 : Nat.beq a 99 = false := by
        cases q : Nat.beq a 99 with
        | true => exact absurd (xb_t q) ha
        | false => rfl
      have hk' : (bif Nat.beq a 99 then k nx ls (xI z :: st) h else k nx ls (xR a b :: st) h) = some r := hk
      rw [e1] at hk'
      by_cases ha0 : a = 0
      · subst ha0
        rw [if_pos rfl] at h2
        obtain ⟨h3, h4⟩ := xand h2
        exact xj_gets (w := xR 0 b) Cx K hBg.2.2.2.1 (Or.inl rfl) (xinp_mem h4) (xdc_s h1).1 (xdc_s h1).2 hk'
      · rw [if_neg ha0] at h2
        obtain ⟨h3, h4⟩ := xand h2
        obtain ⟨h5, h6⟩ := xand h3
        have e : a = 4 := xdec h5
        subst e
        exact xj_gets (w := xR 4 b) Cx K (hBg.2.1 b (xdec h6)) (Or.inr (Or.inl ⟨rfl, xdec h6⟩)) (xinp_mem h4) (xdc_s h1).1 (xdc_s h1).2 hk'
  | iaload => exact xj_iald Cx K (xdc_s hck).1 (xdc_s hck).2 hk
  | iastore => exact xj_iast Cx K (xdc_s hck).1 (xdc_s hck).2 hk
  | baload => exact xj_bald Cx K (xdc_s hck).1 (xdc_s hck).2 hk
  | bastore => exact xj_bast Cx K (xdc_s hck).1 (xdc_s hck).2 hk
  | aaload => exact xj_aald Cx K (xdc_s hck).1 (xdc_s hck).2 hk
  | arraylength => exact xj_alen Cx K (xdc_s hck).1 (xdc_s hck).2 hk
  | invokevirtual v => 
    obtain ⟨h1, h2⟩ := xand hck
    split at h2
    · have e : 9999 = a := xdec h2
      subst e
      exact absurd hk (by
        show ¬ (xcl (xtk b [] st) fun as st => xgd (xrc d as && xfit 4 st) (xbd (cl 9999 as h) fun r h => k nx ls (bif Nat.beq c0 0 then st else xI r :: st) h)) = some r
        intro q
        obtain ⟨as, -, q2⟩ := xcl_i q
        obtain ⟨-, q3⟩ := xgd_i q2
        rw [hno] at q3
        cases q3)
    · rename_i y hy
      obtain ⟨h0, h7⟩ := xand h2
      obtain ⟨h0, h6⟩ := xand h0
      obtain ⟨h0, h5⟩ := xand h0
      obtain ⟨h0, h4⟩ := xand h0
      obtain ⟨h2, h3⟩ := xand h0
      refine xj_invV Cx K (hcl a y hy) hrm (hmi a y hy) (xinp_mem h2) (xdec h3) (xdec h4) (xdec h5) ?_ ?_ (xdc_s h1).1 (xdc_s h1).2 hk
      · by_cases q : c0 = 0
        · rw [if_pos q] at h6 ⊢
          exact xdec h6
        · rw [if_neg q] at h6 ⊢
          exact xdec h6
      · by_cases q : d = 5
        · rw [if_pos q] at h7
          exact Or.inl ⟨q, xdec h7⟩
        · rw [if_neg q] at h7
          obtain ⟨h8, h9⟩ := xand h7
          split at h9
          · cases h9
          · rename_i u hu
            exact Or.inr ⟨xdec h8, u, hu, xdec h9⟩
  | invokestatic v => 
    obtain ⟨h1, h2⟩ := xand hck
    obtain ⟨⟨s1, s2, s3⟩, ⟨s4, s5⟩, s6, s7, s8⟩ := xsys
    by_cases e2 : c0 = 2
    · subst e2
      rw [if_pos rfl] at h2
      exact xj_mmax Cx K (xinp_mem h2) s1 s2 s3 (xdc_s h1).1 (xdc_s h1).2 hk
    rw [if_neg e2] at h2
    by_cases e3 : c0 = 3
    · subst e3
      rw [if_pos rfl] at h2
      exact xj_mmin Cx K (xinp_mem h2) s4 s2 s5 (xdc_s h1).1 (xdc_s h1).2 hk
    rw [if_neg e3] at h2
    by_cases e4 : c0 = 4
    · subst e4
      rw [if_pos rfl] at h2
      exact xj_copy Cx K (xinp_mem h2) s6 s7 s8 (xdc_s h1).1 (xdc_s h1).2 hk
    rw [if_neg e4] at h2
    have b2 : Nat.beq c0 2 = false := by
      cases q : Nat.beq c0 2 with
      | true => exact absurd (xb_t q) e2
      | false => rfl
    have b3 : Nat.beq c0 3 = false := by
      cases q : Nat.beq c0 3 with
      | true => exact absurd (xb_t q) e3
      | false => rfl
    have b4 : Nat.beq c0 4 = false := by
      cases q : Nat.beq c0 4 with
      | true => exact absurd (xb_t q) e4
      | false => rfl
    have hk' : (xcl (xtk b [] st) fun as st => xgd (xfit 4 st) (xbd (cl a as h) fun r h => k nx ls (bif Nat.beq c0 0 then st else xI r :: st) h)) = some r := by
      have hk2 := hk
      simp only [xstp, b2, b3, b4, cond_false] at hk2
      exact hk2
    split at h2
    · have e : 9999 = a := xdec h2
      subst e
      obtain ⟨as, -, q2⟩ := xcl_i hk'
      obtain ⟨-, q3⟩ := xgd_i q2
      rw [hno] at q3
      cases q3
    · rename_i y hy
      obtain ⟨h0, h5⟩ := xand h2
      obtain ⟨h0, h4⟩ := xand h0
      obtain ⟨h2, h3⟩ := xand h0
      have hc : if c0 = 0 then y.2.2.2.1 = none else y.2.2.2.1 ≠ none := by
        by_cases q : c0 = 0
        · rw [if_pos q] at h5 ⊢
          exact xdec h5
        · rw [if_neg q] at h5 ⊢
          exact xdec h5
      by_cases e : d = 1
      · rw [if_pos e] at h2
        exact xj_invSN Cx K (hcl a y hy) hrm (hmi a y hy) (xdec h2) (xdec h3) (xdec h4) hc (xdc_s h1).1 (xdc_s h1).2 hk'
      · rw [if_neg e] at h2
        exact xj_invS Cx K (hcl a y hy) hrm (hmi a y hy) (xinp_mem h2) (xdec h3) (xdec h4) hc (xdc_s h1).1 (xdc_s h1).2 hk'
  | ireturn => 
    obtain ⟨h1, h2⟩ := xand hck
    intro H locs lsA ho hs hP hS hL
    obtain ⟨x, u, hst, hk2⟩ := xs1_i (show (xs1 st fun x st => xsE st (bif Nat.beq c0 0 then some (x, h) else bif Nat.beq c0 1 then xgd (xb01 x) (some (x, h)) else if xch x = x then some (x, h) else none)) = some r from hk)
    subst hst
    cases u with
    | cons _ _ => cases hk2
    | nil =>
      have hk2 : (bif Nat.beq c0 0 then some (x, h) else bif Nat.beq c0 1 then xgd (xb01 x) (some (x, h)) else if xch x = x then some (x, h) else none) = some r := hk2
      have fin : ∀ ty, rt = some ty → narrow ty (.int x) = .int x → some (x, h) = some r → W p l e R s m args below meth c H locs 0 0 Q (F0 m pc lsA (List.map (xcv G) [xI x])) := by
        intro ty e1 e2 e3
        cases e3
        exact hRI ty e1 e2 pc H locs lsA (xdc_s h1).1 hP hS
      by_cases e0 : c0 = 0
      · subst e0
        rw [if_pos rfl] at h2
        exact fin _ (xdec h2) rfl hk2
      · rw [if_neg e0] at h2
        have b0 : Nat.beq c0 0 = false := by
          cases q : Nat.beq c0 0 with
          | true => exact absurd (xb_t q) e0
          | false => rfl
        rw [b0] at hk2
        by_cases e1 : c0 = 1
        · subst e1
          rw [if_pos rfl, Bool.or_eq_true] at h2
          obtain ⟨g1, g2⟩ := xgd_i (show xgd (xb01 x) (some (x, h)) = some r from hk2)
          rcases h2 with q | q
          · exact fin _ (xdec q) (by rcases xb01_n g1 with z | z <;> subst z <;> rfl) g2
          · exact fin _ (xdec q) (by rcases xb01_n g1 with z | z <;> subst z <;> rfl) g2
        · rw [if_neg e1] at h2
          have b1 : Nat.beq c0 1 = false := by
            cases q : Nat.beq c0 1 with
            | true => exact absurd (xb_t q) e1
            | false => rfl
          rw [b1] at hk2
          have hk2 : (if xch x = x then some (x, h) else none) = some r := hk2
          by_cases e2 : xch x = x
          · rw [if_pos e2] at hk2
            refine fin _ (xdec h2) ?_ hk2
            rw [← e2]
            exact pk_nc x
          · rw [if_neg e2] at hk2
            cases hk2
  | return_ => 
    obtain ⟨h1, h2⟩ := xand hck
    intro H locs lsA ho hs hP hS hL
    cases st with
    | cons _ _ => cases hk
    | nil =>
      have hk : some (0, h) = some r := hk
      cases hk
      exact hRV (xdec h2) pc H locs lsA (xdc_s h1).1 hP hS
  | _ => cases hk
/-- a table is right: every operation in it -/
def xtok (own : String) (rt : Option FieldType) (cc : ByteArray) (nL : Nat) (tb : xTb) : Prop := ∀ row ∈ tb, ∀ q ∈ row, xck own rt cc nL q.1 q.2 = true
theorem xlk_mem {pc : Nat} {op : xOp} : ∀ (l : List (Nat × xOp)), xlk pc l = some op → (pc, op) ∈ l := by
  intro l
  induction l with
  | nil => intro h; cases h
  | cons a l ih =>
    obtain ⟨q, o⟩ := a
    intro h
    unfold xlk at h
    cases e : Nat.beq q pc with
    | true =>
      rw [e] at h
      have := xb_t e
      subst this
      cases h
      exact List.mem_cons_self
    | false =>
      rw [e] at h
      exact List.mem_cons_of_mem _ (ih h)
theorem xop_ok {tb : xTb} {op : xOp} (ht : xtok own rt cc nL tb) (h : xop tb pc = some op) : xck own rt cc nL pc op = true := by
  unfold xop at h
  split at h
  · cases h
  · rename_i row hr
    rw [xat_get] at hr
    exact ht row (List.mem_of_getElem? hr) (pc, op) (xlk_mem row h)
def xEnds (rt : Option FieldType) (cc : ByteArray) (p : Program) (l : Launch) (e : Env) (R : Room) (s : State) (m : MethodId) (args : Array Value) (below : List Frame) (meth : Method) (c : Code) (G : xG) (lo n : Nat) (Q : State → Prop) (r : Int32 × xH) : Prop :=
  (∀ ty, rt = some ty → narrow ty (.int r.1) = .int r.1 → ∀ (pc : Nat) (H : Heap) (locs : List Loc) (lsA : Array Slot), decode cc pc = .ok (.ireturn, 1) → va_P (gD G) clX (xwd G lo n r.2) H → va_S (xA G lo n) s.heap H locs → W p l e R s m args below meth c H locs 0 0 Q (F0 m pc lsA [.int r.1])) ∧
  (rt = none → ∀ (pc : Nat) (H : Heap) (locs : List Loc) (lsA : Array Slot), decode cc pc = .ok (.return_, 1) → va_P (gD G) clX (xwd G lo n r.2) H → va_S (xA G lo n) s.heap H locs → W p l e R s m args below meth c H locs 0 0 Q (F0 m pc lsA []))
theorem xrun_J (Cx : xCx p R s m args c own cc nL G lo n tg) {tb : xTb} {ct : List (Nat × List Bool)} {cl : Nat → List xV → xH → xO} {rm : Room} (ht : xtok own rt cc nL tb)
    (hcl : ∀ j y, xat xmi j = some y → ∀ as h v h', cl j as h = some (v, h') → xoks lo n as → xMet l G lo n tg rm y as h v h') (hno : ∀ as h, cl 9999 as h = none) (hrm : xRm R rm) (hmi : ∀ j y, xat xmi j = some y → xmOK y) (hE : xEnds rt cc p l e R s m args below meth c G lo n Q r)
    {kk : Nat → List (Option xV) → List xV → xH → xO} (KK : ∀ pc ls st h, kk pc ls st h = some r → xJ p l e R s m args below meth c nL G lo n Q pc ls st h) : ∀ (N pc : Nat) (ls : List (Option xV)) (st : List xV) (h : xH), xrun XX tb ct cl kk N pc ls st h = some r → xJ p l e R s m args below meth c nL G lo n Q pc ls st h := by
  intro N
  induction N with
  | zero => intro pc ls st h hk; cases hk
  | succ N ih =>
    intro pc ls st h hk
    unfold xrun at hk
    split at hk
    · cases hk
    · rename_i op hop
      refine xstp_J Cx (fun pc ls st h hk => ?_) (xop_ok ht hop) hcl hno hrm hmi hE.1 hE.2 hk
      split at hk
      · exact ih pc ls st h hk
      · rename_i mk hm
        intro H locs lsA ho hs hP hS hL
        exact KK pc _ st h hk H locs lsA (fun i v hv => ho i v (xget_kill ls mk i v hv)) hs hP hS ⟨hL.1, hL.2.1, fun i v hv => hL.2.2 i v (xget_kill ls mk i v hv)⟩
theorem xev_J (Cx : xCx p R s m args c own cc nL G lo n tg) {tb : xTb} {ct : List (Nat × List Bool)} {cl : Nat → List xV → xH → xO} {rm : Room} (ht : xtok own rt cc nL tb)
    (hcl : ∀ j y, xat xmi j = some y → ∀ as h v h', cl j as h = some (v, h') → xoks lo n as → xMet l G lo n tg rm y as h v h') (hno : ∀ as h, cl 9999 as h = none) (hrm : xRm R rm) (hmi : ∀ j y, xat xmi j = some y → xmOK y) (hE : xEnds rt cc p l e R s m args below meth c G lo n Q r) :
    ∀ (N pc : Nat) (ls : List (Option xV)) (st : List xV) (h : xH), xev XX tb ct cl N pc ls st h = some r → xJ p l e R s m args below meth c nL G lo n Q pc ls st h := by
  intro N
  induction N with
  | zero => intro pc ls st h hk; cases hk
  | succ N ih => exact fun pc ls st h hk => xrun_J Cx ht hcl hno hrm hmi hE ih 400 pc ls st h hk
end

