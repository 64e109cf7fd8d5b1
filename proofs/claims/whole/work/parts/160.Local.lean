/-! A RUN TOUCHES NO OBJECT BUT ITS OWN: part 1 of the law -/
def Lc (lo n : Nat) (h : xH) (r : Int32 × xH) : Prop := ∀ o, (o < lo ∨ lo + n ≤ o) → r.2 o = h o
theorem Lc_up {lo n : Nat} {h : xH} {o b : Nat} {x : Int32} {r : Int32 × xH} (ho : lo ≤ o ∧ o < lo + n) (L : Lc lo n (xup h o b x) r) : Lc lo n h r := by
  intro q hq
  rw [L q hq]
  exact xup_o (by omega)
theorem xbr_or {cd : Jvm.ClassFile.Cond} {x y : Int32} {T F : xO} {r : Int32 × xH} (h : xbr cd x y T F = some r) : T = some r ∨ F = some r := by
  cases cd <;> (simp only [xbr] at h; split at h) <;> first | exact Or.inl h | exact Or.inr h
set_option maxHeartbeats 4000000 in
theorem xstp_L {lo n : Nat} {tg : List Nat} (hlay : xlay lo n tg) {own : String} {rt : Option FieldType} {cc : ByteArray} {nL pc : Nat} {ls : List (Option xV)} {st : List xV} {h : xH} {r : Int32 × xH} {k : Nat → List (Option xV) → List xV → xH → xO} {op : xOp} {cl : Nat → List xV → xH → xO} (K : ∀ pc ls st h, xokl lo n ls → xoks lo n st → k pc ls st h = some r → Lc lo n h r) (hck : xck own rt cc nL pc op = true)
    (hcl : ∀ j y, xat xmi j = some y → ∀ as h v h', cl j as h = some (v, h') → xoks lo n as → Lc lo n h (v, h')) (hno : ∀ as h, cl 9999 as h = none) (ho : xokl lo n ls) (hs : xoks lo n st) (hk : xstp XX cl op ls st h k = some r) : Lc lo n h r := by
  obtain ⟨i, nx, a, b, c0, d, z, sw⟩ := op
  have K' : ∀ {pc : Nat} {ls : List (Option xV)} {st : List xV} {h : xH}, k pc ls st h = some r → xokl lo n ls → xoks lo n st → Lc lo n h r := fun a b c => K _ _ _ _ b c a
  cases i with
  | iadd => 
    obtain ⟨y, x, u, hst, hk2⟩ := xs2_i hk
    subst hst
    exact K' hk2 ho (xoks_I (xoks_t (xoks_t hs)))
  | isub => 
    obtain ⟨y, x, u, hst, hk2⟩ := xs2_i hk
    subst hst
    exact K' hk2 ho (xoks_I (xoks_t (xoks_t hs)))
  | imul => 
    obtain ⟨y, x, u, hst, hk2⟩ := xs2_i hk
    subst hst
    exact K' hk2 ho (xoks_I (xoks_t (xoks_t hs)))
  | iand => 
    obtain ⟨y, x, u, hst, hk2⟩ := xs2_i hk
    subst hst
    exact K' hk2 ho (xoks_I (xoks_t (xoks_t hs)))
  | ior => 
    obtain ⟨y, x, u, hst, hk2⟩ := xs2_i hk
    subst hst
    exact K' hk2 ho (xoks_I (xoks_t (xoks_t hs)))
  | ixor => 
    obtain ⟨y, x, u, hst, hk2⟩ := xs2_i hk
    subst hst
    exact K' hk2 ho (xoks_I (xoks_t (xoks_t hs)))
  | ishl => 
    obtain ⟨y, x, u, hst, hk2⟩ := xs2_i hk
    subst hst
    exact K' hk2 ho (xoks_I (xoks_t (xoks_t hs)))
  | ishr => 
    obtain ⟨y, x, u, hst, hk2⟩ := xs2_i hk
    subst hst
    exact K' hk2 ho (xoks_I (xoks_t (xoks_t hs)))
  | iushr => 
    obtain ⟨y, x, u, hst, hk2⟩ := xs2_i hk
    subst hst
    exact K' hk2 ho (xoks_I (xoks_t (xoks_t hs)))
  | idiv => 
    obtain ⟨y, x, u, hst, hk2⟩ := xs2_i hk
    subst hst
    split at hk2
    · cases hk2
    · exact K' hk2 ho (xoks_I (xoks_t (xoks_t hs)))
  | irem => 
    obtain ⟨y, x, u, hst, hk2⟩ := xs2_i hk
    subst hst
    split at hk2
    · cases hk2
    · exact K' hk2 ho (xoks_I (xoks_t (xoks_t hs)))
  | ineg => 
    obtain ⟨x, u, hst, hk2⟩ := xs1_i hk
    subst hst
    exact K' hk2 ho (xoks_I (xoks_t hs))
  | i2b => 
    obtain ⟨x, u, hst, hk2⟩ := xs1_i hk
    subst hst
    exact K' hk2 ho (xoks_I (xoks_t hs))
  | i2s => 
    obtain ⟨x, u, hst, hk2⟩ := xs1_i hk
    subst hst
    exact K' hk2 ho (xoks_I (xoks_t hs))
  | i2c => 
    obtain ⟨x, u, hst, hk2⟩ := xs1_i hk
    subst hst
    exact K' hk2 ho (xoks_I (xoks_t hs))
  | i2l => 
    obtain ⟨x, u, hst, hk2⟩ := xs1_i hk
    subst hst
    exact K' hk2 ho (xoks_L (xoks_t hs))
  | l2i => 
    obtain ⟨x, u, hst, hk2⟩ := xsL_i hk
    subst hst
    exact K' hk2 ho (xoks_I (xoks_t hs))
  | land => 
    obtain ⟨y, x, u, hst, hk2⟩ := xsLL_i hk
    subst hst
    exact K' hk2 ho (xoks_L (xoks_t (xoks_t hs)))
  | lshr => 
    obtain ⟨y, x, u, hst, hk2⟩ := xsIL_i hk
    subst hst
    exact K' hk2 ho (xoks_L (xoks_t (xoks_t hs)))
  | lushr => 
    obtain ⟨y, x, u, hst, hk2⟩ := xsIL_i hk
    subst hst
    exact K' hk2 ho (xoks_L (xoks_t (xoks_t hs)))
  | iconst v => 
    exact K' hk ho (xoks_I hs)
  | bipush v => 
    exact K' hk ho (xoks_I hs)
  | sipush v => 
    exact K' hk ho (xoks_I hs)
  | ldc2_w v => 
    exact K' hk ho (xoks_L hs)
  | ldc v => 
    obtain ⟨h0, h4⟩ := xand hck
    obtain ⟨h0, h3⟩ := xand h0
    obtain ⟨h1, h2⟩ := xand h0
    exact K' hk ho (xoks_c.mpr ⟨Or.inr (Or.inr (Or.inl ⟨rfl, xdec h2⟩)), hs⟩)
  | ldc_w v => 
    obtain ⟨h0, h4⟩ := xand hck
    obtain ⟨h0, h3⟩ := xand h0
    obtain ⟨h1, h2⟩ := xand h0
    exact K' hk ho (xoks_c.mpr ⟨Or.inr (Or.inr (Or.inl ⟨rfl, xdec h2⟩)), hs⟩)
  | iload_n v => 
    obtain ⟨x, hx, hk2⟩ := xlI_i hk
    exact K' hk2 ho (xoks_I hs)
  | iload v => 
    obtain ⟨x, hx, hk2⟩ := xlI_i hk
    exact K' hk2 ho (xoks_I hs)
  | lload_n v => 
    obtain ⟨x, hx, hk2⟩ := xlL_i hk
    exact K' hk2 ho (xoks_L hs)
  | aload_n v => 
    obtain ⟨t, o, hx, hk2⟩ := xlR_i hk
    obtain ⟨hg, hk3⟩ := xgd_i hk2
    exact K' hk3 ho (xoks_c.mpr ⟨ho _ _ hx, hs⟩)
  | aload v => 
    obtain ⟨t, o, hx, hk2⟩ := xlR_i hk
    obtain ⟨hg, hk3⟩ := xgd_i hk2
    exact K' hk3 ho (xoks_c.mpr ⟨ho _ _ hx, hs⟩)
  | istore_n v => 
    obtain ⟨x, u, hst, hk2⟩ := xs1_i hk
    subst hst
    obtain ⟨hg, hk3⟩ := xgd_i hk2
    exact K' hk3 (xokl_set ho trivial) (xoks_t hs)
  | istore v => 
    obtain ⟨x, u, hst, hk2⟩ := xs1_i hk
    subst hst
    obtain ⟨hg, hk3⟩ := xgd_i hk2
    exact K' hk3 (xokl_set ho trivial) (xoks_t hs)
  | astore_n v => 
    obtain ⟨t, o, u, hst, hk2⟩ := xsR_i hk
    subst hst
    obtain ⟨hg, hk3⟩ := xgd_i hk2
    exact K' hk3 (xokl_set ho (xoks_c.mp hs).1) (xoks_t hs)
  | astore v => 
    obtain ⟨t, o, u, hst, hk2⟩ := xsR_i hk
    subst hst
    obtain ⟨hg, hk3⟩ := xgd_i hk2
    exact K' hk3 (xokl_set ho (xoks_c.mp hs).1) (xoks_t hs)
  | iinc v w => 
    obtain ⟨x, hx, hk2⟩ := xlI_i hk
    obtain ⟨hg, hk3⟩ := xgd_i hk2
    exact K' hk3 (xokl_set ho trivial) hs
  | dup => 
    have hk2 : xsD st (fun x st => k nx ls (xI x :: xI x :: st) h) (fun t o st => k nx ls (xR t o :: xR t o :: st) h) = some r := hk
    unfold xsD at hk2
    split at hk2
    · exact K' hk2 ho (xoks_I hs)
    · exact K' hk2 ho (xoks_c.mpr ⟨(xoks_c.mp hs).1, hs⟩)
    · cases hk2
  | dup2 => 
    obtain ⟨x, t, o, u, hst, hk2⟩ := xsIR_i hk
    subst hst
    exact K' hk2 ho (xoks_I (xoks_c.mpr ⟨(xoks_c.mp (xoks_t hs)).1, hs⟩))
  | pop => 
    obtain ⟨x, u, hst, hk2⟩ := xs1_i hk
    subst hst
    exact K' hk2 ho (xoks_t hs)
  | if_icmp cd w => 
    obtain ⟨y, x, u, hst, hk2⟩ := xs2_i hk
    subst hst
    rcases xbr_or hk2 with q | q
    · exact K' q ho (xoks_t (xoks_t hs))
    · exact K' q ho (xoks_t (xoks_t hs))
  | ifCond cd w => 
    obtain ⟨x, u, hst, hk2⟩ := xs1_i hk
    subst hst
    rcases xbr_or hk2 with q | q
    · exact K' q ho (xoks_t hs)
    · exact K' q ho (xoks_t hs)
  | goto w => 
    exact K' hk ho hs
  | tableswitch f u v os => 
    obtain ⟨x, u, hst, hk2⟩ := xs1_i hk
    subst hst
    rw [xsw_st] at hk2
    exact K' hk2 ho (xoks_t hs)
  | lookupswitch f ps => 
    obtain ⟨x, u, hst, hk2⟩ := xs1_i hk
    subst hst
    rw [xsw_st] at hk2
    exact K' hk2 ho (xoks_t hs)
  | getfield v => 
    obtain ⟨h1, h2⟩ := xand hck
    obtain ⟨t, o, u, hst, hk2⟩ := xsR_i hk
    subst hst
    obtain ⟨hg, hk3⟩ := xgd_i hk2
    have ht := xb_t hg
    subst ht
    have hr := (xoks_c.mp hs).1
    by_cases e5 : t = 5
    · subst e5
      have o16 : o < 16 := by
        rcases hr with q | q | q | q | q
        · omega
        · omega
        · exact q.2
        · omega
        · omega
      rw [if_pos rfl] at h2
      by_cases e98 : c0 = 98
      · subst e98
        exact K' hk3 ho (xoks_I (xoks_t hs))
      · rw [if_neg e98] at h2
        obtain ⟨h3, h4⟩ := xand h2
        obtain ⟨h5, h6⟩ := xand h3
        have e9 : c0 = 9 := xdec h5
        have d0 : d = 0 := xdec h6
        subst e9
        subst d0
        exact K' hk3 ho (xoks_c.mpr ⟨Or.inr (Or.inr (Or.inr (Or.inl ⟨rfl, o16⟩))), xoks_t hs⟩)
    · rw [if_neg e5] at h2
      obtain ⟨h3, h4⟩ := xand h2
      obtain ⟨h16, q, -, -, -⟩ := xfk_s h3
      obtain ⟨r1, r2, r3⟩ := xrf_in hr (by omega) (by omega) (by omega) (by omega)
      by_cases e0 : c0 = 0
      · subst e0
        exact K' hk3 ho (xoks_I (xoks_t hs))
      · rw [if_neg e0] at h4
        obtain ⟨h5, h6⟩ := xand h4
        have n98 : c0 ≠ 98 := xdec h5
        have hq : xat (fsX t) b = some (1, c0, d) := xdec h6
        rw [xat_get] at hq
        have b0 : Nat.beq c0 0 = false := by
          cases z : Nat.beq c0 0 with
          | true => exact absurd (xb_t z) e0
          | false => rfl
        have b98 : Nat.beq c0 98 = false := by
          cases z : Nat.beq c0 98 with
          | true => exact absurd (xb_t z) n98
          | false => rfl
        rw [b0, b98] at hk3
        obtain ⟨-, -, l3, -⟩ := hlay o r1 r2
        have l3 := l3 (by omega) (1, c0, d) (by rw [r3]; exact List.mem_of_getElem? hq)
        have l3 : lo ≤ o + d ∧ o + d < lo + n ∧ kdX (o + d) = c0 := by
          rcases l3 with z | z
          · cases z
          · exact z
        obtain ⟨l4, -⟩ := hlay (o + d) l3.1 l3.2.1
        have hrf : xrf lo n c0 (o + d) := Or.inr (Or.inr (Or.inr (Or.inr ⟨l3.1, l3.2.1, l3.2.2, by omega, by omega, by omega⟩)))
        exact K' hk3 ho (xoks_c.mpr ⟨hrf, xoks_t hs⟩)
  | putfield v => 
    obtain ⟨h0, h4⟩ := xand hck
    obtain ⟨h0, h3⟩ := xand h0
    obtain ⟨h1, h2⟩ := xand h0
    obtain ⟨x, t, o, u, hst, hk2⟩ := xsIR_i hk
    subst hst
    obtain ⟨hg, hk3⟩ := xgd_i hk2
    have ht := xb_t hg
    subst ht
    obtain ⟨hg2, hk4⟩ := xgd_i hk3
    obtain ⟨h16, q, -, -, -⟩ := xfk_s h2
    obtain ⟨r1, r2, r3⟩ := xrf_in (xoks_c.mp (xoks_t hs)).1 (by omega) (by omega) (by omega) (by omega)
    exact Lc_up ⟨r1, r2⟩ (K' hk4 ho (xoks_t (xoks_t hs)))
  | getstatic v => 
    obtain ⟨h1, h2⟩ := xand hck
    by_cases e99 : a = 99
    · subst e99
      exact K' hk ho (xoks_I hs)
    · rw [if_neg e99] at h2
      have b99 : Nat.beq a 99 = false := by
        cases z : Nat.beq a 99 with
        | true => exact absurd (xb_t z) e99
        | false => rfl
      have hk2 : k nx ls (xR a b :: st) h = some r := by
        simp only [xstp, b99, cond_false] at hk
        exact hk
      by_cases e0 : a = 0
      · subst e0
        exact K' hk2 ho (xoks_c.mpr ⟨Or.inl rfl, hs⟩)
      · rw [if_neg e0] at h2
        obtain ⟨h3, h4⟩ := xand h2
        obtain ⟨h5, h6⟩ := xand h3
        have e4 : a = 4 := xdec h5
        have b4 : b < 4 := xdec h6
        subst e4
        exact K' hk2 ho (xoks_c.mpr ⟨Or.inr (Or.inl ⟨rfl, b4⟩), hs⟩)
  | iaload => 
    obtain ⟨i, t, o, u, hst, hk2⟩ := xsIR_i hk
    subst hst
    cases z : Nat.beq t 1 with
    | true =>
      rw [z] at hk2
      obtain ⟨-, hk3⟩ := xnb_i (show xnb i (XX.1 o) (k nx ls (xI (h o i.toNatClampNeg) :: u) h) = some r from hk2)
      exact K' hk3 ho (xoks_I (xoks_t (xoks_t hs)))
    | false =>
      rw [z] at hk2
      obtain ⟨-, hk3⟩ := xgd_i (show xgd (Nat.beq t 4) (xnb i (XX.2.1 o) (k nx ls (xI (XX.2.2.1 o i.toNatClampNeg) :: u) h)) = some r from hk2)
      obtain ⟨-, hk4⟩ := xnb_i hk3
      exact K' hk4 ho (xoks_I (xoks_t (xoks_t hs)))
  | iastore => 
    obtain ⟨x, i, t, o, u, hst, hk2⟩ := xsIIR_i hk
    subst hst
    obtain ⟨hg, hk3⟩ := xgd_i hk2
    have ht := xb_t hg
    subst ht
    obtain ⟨-, hk4⟩ := xnb_i hk3
    obtain ⟨r1, r2, r3⟩ := xrf_in (xoks_c.mp (xoks_t (xoks_t hs))).1 (by omega) (by omega) (by omega) (by omega)
    exact Lc_up ⟨r1, r2⟩ (K' hk4 ho (xoks_t (xoks_t (xoks_t hs))))
  | baload => 
    obtain ⟨i, t, o, u, hst, hk2⟩ := xsIR_i hk
    subst hst
    cases z : (Nat.beq t 2 || Nat.beq t 3) with
    | true =>
      rw [z] at hk2
      obtain ⟨-, hk3⟩ := xnb_i (show xnb i (XX.1 o) (k nx ls (xI (h o i.toNatClampNeg) :: u) h) = some r from hk2)
      exact K' hk3 ho (xoks_I (xoks_t (xoks_t hs)))
    | false =>
      rw [z] at hk2
      obtain ⟨-, hk3⟩ := xgd_i (show xgd (Nat.beq t 9) (xnb i (XX.2.2.2.1 o) (k nx ls (xI (XX.2.2.2.2.1 o i.toNatClampNeg) :: u) h)) = some r from hk2)
      obtain ⟨-, hk4⟩ := xnb_i hk3
      exact K' hk4 ho (xoks_I (xoks_t (xoks_t hs)))
  | bastore => 
    obtain ⟨x, i, t, o, u, hst, hk2⟩ := xsIIR_i hk
    subst hst
    cases z : Nat.beq t 2 with
    | true =>
      rw [z] at hk2
      have ht := xb_t z
      subst ht
      obtain ⟨-, hk4⟩ := xnb_i (show xnb i (XX.1 o) (k nx ls u (xup h o i.toNatClampNeg x.toInt8.toInt32)) = some r from hk2)
      obtain ⟨r1, r2, r3⟩ := xrf_in (xoks_c.mp (xoks_t (xoks_t hs))).1 (by omega) (by omega) (by omega) (by omega)
      exact Lc_up ⟨r1, r2⟩ (K' hk4 ho (xoks_t (xoks_t (xoks_t hs))))
    | false =>
      rw [z] at hk2
      obtain ⟨hg, hk3⟩ := xgd_i (show xgd (Nat.beq t 3 && xb01 x) (xnb i (XX.1 o) (k nx ls u (xup h o i.toNatClampNeg x))) = some r from hk2)
      obtain ⟨hg, -⟩ := xand hg
      have ht := xb_t hg
      subst ht
      obtain ⟨-, hk4⟩ := xnb_i hk3
      obtain ⟨r1, r2, r3⟩ := xrf_in (xoks_c.mp (xoks_t (xoks_t hs))).1 (by omega) (by omega) (by omega) (by omega)
      exact Lc_up ⟨r1, r2⟩ (K' hk4 ho (xoks_t (xoks_t (xoks_t hs))))
  | aaload => 
    obtain ⟨i, t, o, u, hst, hk2⟩ := xsIR_i hk
    subst hst
    cases z : Nat.beq t 6 with
    | true =>
      rw [z] at hk2
      have ht := xb_t z
      subst ht
      obtain ⟨hi, hk4⟩ := xnb_i (show xnb i (XX.1 o) (k nx ls (xR 24 (o + 1 + 2 * i.toNatClampNeg) :: u) h) = some r from hk2)
      obtain ⟨r1, r2, r3⟩ := xrf_in (xoks_c.mp (xoks_t hs)).1 (by omega) (by omega) (by omega) (by omega)
      obtain ⟨-, -, -, l6, -⟩ := hlay o r1 r2
      have hlt : i.toNatClampNeg < lenX o := Nat.not_le.mp fun q => hi (Or.inr q)
      have l6 := l6 r3 _ hlt
      exact K' hk4 ho (xoks_c.mpr ⟨Or.inr (Or.inr (Or.inr (Or.inr ⟨l6.1, l6.2.1, l6.2.2, by omega, by omega, by omega⟩))), xoks_t (xoks_t hs)⟩)
    | false =>
      rw [z] at hk2
      obtain ⟨hg, hk3⟩ := xgd_i (show xgd (Nat.beq t 7) (xnb i (XX.1 o) (k nx ls (xR 5 (XX.2.2.2.2.2 o i.toNatClampNeg) :: u) h)) = some r from hk2)
      have ht := xb_t hg
      subst ht
      obtain ⟨hi, hk4⟩ := xnb_i hk3
      obtain ⟨r1, r2, r3⟩ := xrf_in (xoks_c.mp (xoks_t hs)).1 (by omega) (by omega) (by omega) (by omega)
      obtain ⟨-, -, -, -, l7, -⟩ := hlay o r1 r2
      have hlt : i.toNatClampNeg < lenX o := Nat.not_le.mp fun q => hi (Or.inr q)
      exact K' hk4 ho (xoks_c.mpr ⟨Or.inr (Or.inr (Or.inl ⟨rfl, l7 r3 _ hlt⟩)), xoks_t (xoks_t hs)⟩)
  | arraylength => 
    obtain ⟨t, o, u, hst, hk2⟩ := xsR_i hk
    subst hst
    cases z : Nat.beq t 9 with
    | true =>
      rw [z] at hk2
      exact K' hk2 ho (xoks_I (xoks_t hs))
    | false =>
      rw [z] at hk2
      obtain ⟨hg, hk3⟩ := xgd_i (show xgd (Nat.beq t 1 || Nat.beq t 7) (k nx ls (xI (nI (XX.1 o)) :: u) h) = some r from hk2)
      exact K' hk3 ho (xoks_I (xoks_t hs))
  | invokevirtual v => 
    obtain ⟨h1, h2⟩ := xand hck
    have hk' : (xcl (xtk b [] st) fun as st => xgd (xrc d as && xfit 4 st) (xbd (cl a as h) fun r h => k nx ls (bif Nat.beq c0 0 then st else xI r :: st) h)) = some r := hk
    split at h2
    · have e : 9999 = a := xdec h2
      subst e
      obtain ⟨as, -, q2⟩ := xcl_i hk'
      obtain ⟨-, q3⟩ := xgd_i q2
      rw [hno] at q3
      cases q3
    · rename_i y hy
      obtain ⟨⟨as, u⟩, htk, hk2⟩ := xcl_i (show (xcl (xtk b [] st) fun as st => xgd (xrc d as && xfit 4 st) (xbd (cl a as h) fun r h => k nx ls (bif Nat.beq c0 0 then st else xI r :: st) h)) = some r from hk')
      obtain ⟨hg, hk3⟩ := xgd_i hk2
      obtain ⟨⟨w, h'⟩, hw, hk4⟩ := xbd_i hk3
      obtain ⟨u0, e1, e2, -⟩ := xtk_eq _ _ _ _ htk
      have e1 : st = u0 ++ u := e1
      have e2 : as = u0.reverse ++ [] := e2
      have has : xoks lo n as := by
        intro v hv
        rw [e2, List.append_nil] at hv
        exact hs v (by rw [e1]; exact List.mem_append_left _ (List.mem_reverse.mp hv))
      have hus : xoks lo n u := fun v hv => hs v (by rw [e1]; exact List.mem_append_right _ hv)
      have L1 := hcl a y hy as h w h' hw has
      have L2 : Lc lo n h' r := by
        refine K' hk4 ho ?_
        cases Nat.beq c0 0 with
        | true => exact hus
        | false => exact xoks_I hus
      exact fun o hout => (L2 o hout).trans (L1 o hout)
  | invokestatic v => 
    obtain ⟨h1, h2⟩ := xand hck
    by_cases e2 : c0 = 2
    · subst e2
      obtain ⟨y, x, u, hst, hk2⟩ := xs2_i (show (xs2 st fun y x st => xgd (xfit 4 st) (k nx ls (xI (if x < y then y else x) :: st) h)) = some r from hk)
      subst hst
      obtain ⟨-, hk3⟩ := xgd_i hk2
      exact K' hk3 ho (xoks_I (xoks_t (xoks_t hs)))
    rw [if_neg e2] at h2
    by_cases e3 : c0 = 3
    · subst e3
      obtain ⟨y, x, u, hst, hk2⟩ := xs2_i (show (xs2 st fun y x st => xgd (xfit 4 st) (k nx ls (xI (if y < x then y else x) :: st) h)) = some r from hk)
      subst hst
      obtain ⟨-, hk3⟩ := xgd_i hk2
      exact K' hk3 ho (xoks_I (xoks_t (xoks_t hs)))
    rw [if_neg e3] at h2
    by_cases e4 : c0 = 4
    · subst e4
      obtain ⟨n1, e, t1, o1, g, t0, o0, u, hst, hk2⟩ := xsCp_i (show (xsCp st fun n e t1 o1 g t0 o0 st => xgd (Nat.beq t0 1 && (Nat.beq t1 1 && xfit 4 st)) (if g < 0 ∨ e < 0 ∨ n < 0 ∨ XX.1 o0 < g.toNatClampNeg + n.toNatClampNeg ∨ XX.1 o1 < e.toNatClampNeg + n.toNatClampNeg then none else k nx ls st (xcp h o0 g.toNatClampNeg o1 e.toNatClampNeg n.toNatClampNeg))) = some r from hk)
      subst hst
      obtain ⟨hg, hk3⟩ := xgd_i hk2
      obtain ⟨-, hg⟩ := xand hg
      obtain ⟨hg, -⟩ := xand hg
      have ht := xb_t hg
      subst ht
      split at hk3
      · cases hk3
      · obtain ⟨r1, r2, r3⟩ := xrf_in (xoks_c.mp (xoks_t (xoks_t hs))).1 (by omega) (by omega) (by omega) (by omega)
        have L := K' hk3 ho (xoks_t (xoks_t (xoks_t (xoks_t (xoks_t hs)))))
        intro o hout
        rw [L o hout]
        exact xcp_o (by omega)
    rw [if_neg e4] at h2
    have b2 : Nat.beq c0 2 = false := by
      cases q : Nat.beq c0 2 with
      | true => exact absurd (xb_t q) e2
      | false => rfl
    have b3 : Nat.beq c0 3 = false := by
      cases q : Nat.beq c0 3 with
      | true => exact absurd (xb_t q) e3
      | false => rfl
    have b4 : Nat.beq c0 4 = false := by
      cases q : Nat.beq c0 4 with
      | true => exact absurd (xb_t q) e4
      | false => rfl
    have hk' : (xcl (xtk b [] st) fun as st => xgd (xfit 4 st) (xbd (cl a as h) fun r h => k nx ls (bif Nat.beq c0 0 then st else xI r :: st) h)) = some r := by
      have hk2 := hk
      simp only [xstp, b2, b3, b4, cond_false] at hk2
      exact hk2
    split at h2
    · have e : 9999 = a := xdec h2
      subst e
      obtain ⟨as, -, q2⟩ := xcl_i hk'
      obtain ⟨-, q3⟩ := xgd_i q2
      rw [hno] at q3
      cases q3
    · rename_i y hy
      obtain ⟨⟨as, u⟩, htk, hk2⟩ := xcl_i (show (xcl (xtk b [] st) fun as st => xgd (xfit 4 st) (xbd (cl a as h) fun r h => k nx ls (bif Nat.beq c0 0 then st else xI r :: st) h)) = some r from hk')
      obtain ⟨hg, hk3⟩ := xgd_i hk2
      obtain ⟨⟨w, h'⟩, hw, hk4⟩ := xbd_i hk3
      obtain ⟨u0, e1, e2, -⟩ := xtk_eq _ _ _ _ htk
      have e1 : st = u0 ++ u := e1
      have e2 : as = u0.reverse ++ [] := e2
      have has : xoks lo n as := by
        intro v hv
        rw [e2, List.append_nil] at hv
        exact hs v (by rw [e1]; exact List.mem_append_left _ (List.mem_reverse.mp hv))
      have hus : xoks lo n u := fun v hv => hs v (by rw [e1]; exact List.mem_append_right _ hv)
      have L1 := hcl a y hy as h w h' hw has
      have L2 : Lc lo n h' r := by
        refine K' hk4 ho ?_
        cases Nat.beq c0 0 with
        | true => exact hus
        | false => exact xoks_I hus
      exact fun o hout => (L2 o hout).trans (L1 o hout)
  | ireturn => 
    obtain ⟨x, u, hst, hk2⟩ := xs1_i hk
    subst hst
    cases u with
    | cons _ _ => cases hk2
    | nil =>
      have hk2 : (bif Nat.beq c0 0 then some (x, h) else bif Nat.beq c0 1 then xgd (xb01 x) (some (x, h)) else if xch x = x then some (x, h) else none) = some r := hk2
      cases z : Nat.beq c0 0 with
      | true => rw [z] at hk2; cases hk2; exact fun _ _ => rfl
      | false =>
        rw [z] at hk2
        cases z1 : Nat.beq c0 1 with
        | true =>
          rw [z1] at hk2
          obtain ⟨-, g⟩ := xgd_i (show xgd (xb01 x) (some (x, h)) = some r from hk2)
          cases g
          exact fun _ _ => rfl
        | false =>
          rw [z1] at hk2
          have hk2 : (if xch x = x then some (x, h) else none) = some r := hk2
          split at hk2
          · cases hk2; exact fun _ _ => rfl
          · cases hk2
  | return_ => 
    cases st with
    | cons _ _ => cases hk
    | nil =>
      have hk : some (0, h) = some r := hk
      cases hk
      exact fun _ _ => rfl
  | _ => cases hk
theorem xrun_L {lo n : Nat} {tg : List Nat} (hlay : xlay lo n tg) {own : String} {rt : Option FieldType} {cc : ByteArray} {nL : Nat} {r : Int32 × xH} {tb : xTb} {ct : List (Nat × List Bool)} {cl : Nat → List xV → xH → xO} (ht : xtok own rt cc nL tb)
    (hcl : ∀ j y, xat xmi j = some y → ∀ as h v h', cl j as h = some (v, h') → xoks lo n as → Lc lo n h (v, h')) (hno : ∀ as h, cl 9999 as h = none)
    {kk : Nat → List (Option xV) → List xV → xH → xO} (KK : ∀ pc ls st h, xokl lo n ls → xoks lo n st → kk pc ls st h = some r → Lc lo n h r) : ∀ (N pc : Nat) (ls : List (Option xV)) (st : List xV) (h : xH), xokl lo n ls → xoks lo n st → xrun XX tb ct cl kk N pc ls st h = some r → Lc lo n h r := by
  intro N
  induction N with
  | zero => intro pc ls st h _ _ hk; cases hk
  | succ N ih =>
    intro pc ls st h ho hs hk
    unfold xrun at hk
    split at hk
    · cases hk
    · rename_i op hop
      refine xstp_L hlay (fun pc ls st h ho hs hk => ?_) (xop_ok ht hop) hcl hno ho hs hk
      split at hk
      · exact ih pc ls st h ho hs hk
      · rename_i mk hm
        exact KK pc _ st h (fun i v hv => ho i v (xget_kill ls mk i v hv)) hs hk
theorem xev_L {lo n : Nat} {tg : List Nat} (hlay : xlay lo n tg) {own : String} {rt : Option FieldType} {cc : ByteArray} {nL : Nat} {r : Int32 × xH} {tb : xTb} {ct : List (Nat × List Bool)} {cl : Nat → List xV → xH → xO} (ht : xtok own rt cc nL tb)
    (hcl : ∀ j y, xat xmi j = some y → ∀ as h v h', cl j as h = some (v, h') → xoks lo n as → Lc lo n h (v, h')) (hno : ∀ as h, cl 9999 as h = none) :
    ∀ (N pc : Nat) (ls : List (Option xV)) (st : List xV) (h : xH), xokl lo n ls → xoks lo n st → xev XX tb ct cl N pc ls st h = some r → Lc lo n h r := by
  intro N
  induction N with
  | zero => intro pc ls st h _ _ hk; cases hk
  | succ N ih => exact fun pc ls st h ho hs hk => xrun_L hlay ht hcl hno ih 400 pc ls st h ho hs hk
theorem xent_v : ∀ (as : List xV) (i : Nat) (v : xV), xget (xent as) i = some v → v ∈ as := by
  intro as
  induction as with
  | nil => intro i v h; cases h
  | cons a as ih =>
    intro i v h
    rcases a with x | x | x
    · cases i with
      | zero => cases h; exact List.mem_cons_self
      | succ i => exact List.mem_cons_of_mem _ (ih i v h)
    · cases i with
      | zero => cases h; exact List.mem_cons_self
      | succ i =>
        cases i with
        | zero => cases h
        | succ i => exact List.mem_cons_of_mem _ (ih i v h)
    · cases i with
      | zero => cases h; exact List.mem_cons_self
      | succ i => exact List.mem_cons_of_mem _ (ih i v h)
theorem xM_loc (cts : Nat → List (Nat × List Bool)) {lo n : Nat} {tg : List Nat} (hlay : xlay lo n tg) : ∀ (d j : Nat) (y : xMi), xat xmi j = some y → ∀ (as : List xV) (h : xH) (v : Int32) (h' : xH), xM XX ptX cts d j as h = some (v, h') → xoks lo n as → Lc lo n h (v, h') := by
  intro d
  induction d with
  | zero => intro j y _ as h v h' hk; cases hk
  | succ d ih =>
    intro j y hy as h v h' hk hok
    obtain ⟨hmo, hpl, mt, hmt, htok, hnl, hac⟩ := xk_ok hy
    have hk : (match xat ptX j with
      | none => none
      | some mt => xgd (Nat.beq as.length mt.2.2 && Nat.ble (xent as).length mt.2.1) (xev XX mt.1 (cts j) (xM XX ptX cts d) xF 0 (xpad mt.2.1 (xent as)) [] h)) = some (v, h') := hk
    rw [hmt] at hk
    obtain ⟨hg, hk⟩ := xgd_i hk
    exact xev_L hlay htok (fun j y hy as h v h' hk hok => ih j y hy as h v h' hk hok) (xM_no cts d) xF 0 _ _ _ (fun i v hi => hok v (xent_v _ i v (xget_pad _ _ i v hi))) (fun v hv => by cases hv) hk
