/-! THE LAW, part 3: its loop -/
set_option maxHeartbeats 4000000 in
theorem law_loop {p : Program} {l : Launch} {e : Env} {s : State} {m : MethodId} {below : List Frame} {meth : Method} {c : Code} {G : xG} {b L : Nat} {xs : Nat → Int32} (Cx : nLw p s m c b L xs G) (hr : meth.sig.returnType = ret) (hlocks : meth.locks = false) : ∀ (n i : Nat), i ≤ L → L + 1 ≤ i + n → ∀ (z : zH) (H : Heap) (locs : List Loc) (ls : Array Slot), Inv z → va_P (gD G) clX (nWd G (hI z)) H → va_D (fun q => s.heap.size ≤ q) (nWd G (hI z)) → va_S (fun q => s.heap.size ≤ q) s.heap H locs → lv_has ls 4 [(3, .int (nI i)), (2, .ref (gad G 100)), (1, .ref (gad G 0)), (0, .ref b)] → W p l e room_1 s m #[Value.ref b] below meth c H locs 600000 7302250 (lw_Z below #[Value.ref b] s) (F0 m 18 ls []) := by
  obtain ⟨hx, hb, hml, hown, hts, hX, hbl, hK0, hK1, hBg, hG0, hG1, hL⟩ := id Cx
  have hbA : ¬ (fun q : Nat => s.heap.size ≤ q) b := Nat.not_le.mpr hbl
  intro n
  induction n with
  | zero =>
    intro i h1 h2
    exact absurd h2 (by omega)
  | succ n ih =>
    intro i hi hin z H locs ls hz hP hD hS hl
    refine lv_iload_n hx hb (show decode code 18 = .ok (.iload_n 3, 1) by decide +kernel) rfl (lv_at hl 0 rfl) ?_
    refine lv_aload_n hx hb (show decode code 19 = .ok (.aload_n 0, 1) by decide +kernel) rfl (lv_at hl 3 rfl) ?_
    refine va_slen hx hb hX hbl hbA hS (show decode code 20 = .ok (.arraylength, 1) by decide +kernel) ?_
    refine lv_bipush (v := (6 : Int32)) hx hb (show decode code 21 = .ok (.bipush 6, 2) by decide +kernel) (by decide) ?_
    refine lv_isub hx hb (show decode code 23 = .ok (.isub, 1) by decide +kernel) ?_
    have e1 : Int32.ofNat L - (6 : Int32) = zI ((L : Int) - 6) := by
      rw [← zI_sub]
      rfl
    have e2 : nI i = zI (i : Int) := rfl
    refine lv_icmp_gt (tgt := 1762) hx hb (show decode code 24 = .ok (.if_icmp .gt 1738, 3) by decide +kernel) (by decide) (fun q => ?_) (fun q => ?_)
    · refine lv_iconst (v := 1) hx hb (show decode code 1762 = .ok (.iconst 1, 1) by decide +kernel) (by decide) ?_
      refine va_forget (fun q hq => hS.2.2 q hq) ?_
      exact lw_ret hx hb hr hlocks (show decode code 1763 = .ok (.ireturn, 1) by decide +kernel)
    · have hlt : i + 5 < L := by
        rw [e1, e2, zI_lt (by simp only [zR]; omega) (by simp only [zR]; omega)] at q
        omega
      have hf : 600000 ≤ room_1.cells ∧ 7302250 ≤ room_1.slots := ⟨Nat.le_of_ble_eq_true rfl, Nat.le_of_ble_eq_true rfl⟩
      refine lv_aload_n hx hb (show decode code 27 = .ok (.aload_n 0, 1) by decide +kernel) rfl (lv_at hl 3 rfl) ?_
      refine lv_iload_n hx hb (show decode code 28 = .ok (.iload_n 3, 1) by decide +kernel) rfl (lv_at hl 0 rfl) ?_
      refine va_sld hx hb hX hbl hbA hS (vp_in_nI (by omega) (by omega)) (show decode code 29 = .ok (.iaload, 1) by decide +kernel) ?_
      refine lv_bipush (v := (63 : Int32)) hx hb (show decode code 30 = .ok (.bipush 63, 2) by decide +kernel) (by decide) ?_
      refine lv_iand hx hb (show decode code 32 = .ok (.iand, 1) by decide +kernel) ?_
      have kk : ∀ (H1 : Heap) (locs1 : List Loc) (z2 : zH), Inv z2 → va_P (gD G) clX (nWd G (hI z2)) H1 → va_D (fun q => s.heap.size ≤ q) (nWd G (hI z2)) → va_S (fun q => s.heap.size ≤ q) s.heap H1 locs1 → W p l e room_1 s m #[Value.ref b] below meth c H1 locs1 600000 7302250 (lw_Z below #[Value.ref b] s) (F0 m 1756 ls []) := by
        intro H1 locs1 z2 hI2 hP hD hS
        refine lv_iinc (n := 6) (k := 0) (v := nI (i + 6)) (lv' := [(3, .int (nI (i + 6))), (2, .ref (gad G 100)), (1, .ref (gad G 0)), (0, .ref b)]) hx hb (show decode code 1756 = .ok (.iinc 3 6, 3) by decide +kernel) hl rfl (nI_add i 6) (by decide) rfl (fun ls hl => ?_)
        refine lv_goto (tgt := 18) hx hb (show decode code 1759 = .ok (.goto (-1741), 3) by decide +kernel) (by decide) ?_
        exact ih (i + 6) (by omega) (by omega) z2 H1 locs1 ls hI2 hP hD hS hl
      generalize xs (nI i).toNatClampNeg &&& 63 = x
      have hd := (show decode code 33 = .ok (.tableswitch 1723 0 47 #[207, 240, 273, 306, 339, 362, 395, 418, 431, 494, 527, 550, 573, 586, 599, 622, 655, 708, 751, 794, 827, 840, 903, 916, 949, 962, 985, 1008, 1041, 1084, 1097, 1140, 1163, 1186, 1209, 1232, 1291, 1360, 1403, 1446, 1489, 1532, 1575, 1608, 1651, 1674, 1697, 1710], 207) by decide +kernel)
      by_cases h1 : x.toInt < 0 ∨ 47 < x.toInt
      · exact lv_tableOut (tgt := 1756) hx hb hd h1 (by decide) (kk H locs z hz hP hD hS)
      · obtain ⟨j, hj⟩ : ∃ j, j = (x.toInt - 0).toNat := ⟨_, rfl⟩
        have hj48 : j < 48 := by omega
        have n0 : ¬ x.toInt < 0 := fun q => h1 (Or.inl q)
        have n1 : ¬ 47 < x.toInt := fun q => h1 (Or.inr q)
        match j, hj, hj48 with
        | 0, hj, _ => exact lv_tableIn (tgt := 240) hx hb hd n0 n1 (by rw [← hj]; rfl) (by decide) (n_k0 Cx hl hlt hz hP hD hS hf kk)
        | 1, hj, _ => exact lv_tableIn (tgt := 273) hx hb hd n0 n1 (by rw [← hj]; rfl) (by decide) (n_k1 Cx hl hlt hz hP hD hS hf kk)
        | 2, hj, _ => exact lv_tableIn (tgt := 306) hx hb hd n0 n1 (by rw [← hj]; rfl) (by decide) (n_k2 Cx hl hlt hz hP hD hS hf kk)
        | 3, hj, _ => exact lv_tableIn (tgt := 339) hx hb hd n0 n1 (by rw [← hj]; rfl) (by decide) (n_k3 Cx hl hlt hz hP hD hS hf kk)
        | 4, hj, _ => exact lv_tableIn (tgt := 372) hx hb hd n0 n1 (by rw [← hj]; rfl) (by decide) (n_k4 Cx hl hlt hz hP hD hS hf kk)
        | 5, hj, _ => exact lv_tableIn (tgt := 395) hx hb hd n0 n1 (by rw [← hj]; rfl) (by decide) (n_k5 Cx hl hlt hz hP hD hS hf kk)
        | 6, hj, _ => exact lv_tableIn (tgt := 428) hx hb hd n0 n1 (by rw [← hj]; rfl) (by decide) (n_k6 Cx hl hlt hz hP hD hS hf kk)
        | 7, hj, _ => exact lv_tableIn (tgt := 451) hx hb hd n0 n1 (by rw [← hj]; rfl) (by decide) (n_k7 Cx hl hlt hz hP hD hS hf kk)
        | 8, hj, _ => exact lv_tableIn (tgt := 464) hx hb hd n0 n1 (by rw [← hj]; rfl) (by decide) (n_k8 Cx hl hlt hz hP hD hS hf kk)
        | 9, hj, _ => exact lv_tableIn (tgt := 527) hx hb hd n0 n1 (by rw [← hj]; rfl) (by decide) (n_k9 Cx hl hlt hz hP hD hS hf kk)
        | 10, hj, _ => exact lv_tableIn (tgt := 560) hx hb hd n0 n1 (by rw [← hj]; rfl) (by decide) (n_k10 Cx hl hlt hz hP hD hS hf kk)
        | 11, hj, _ => exact lv_tableIn (tgt := 583) hx hb hd n0 n1 (by rw [← hj]; rfl) (by decide) (n_k11 Cx hl hlt hz hP hD hS hf kk)
        | 12, hj, _ => exact lv_tableIn (tgt := 606) hx hb hd n0 n1 (by rw [← hj]; rfl) (by decide) (n_k12 Cx hl hlt hz hP hD hS hf kk)
        | 13, hj, _ => exact lv_tableIn (tgt := 619) hx hb hd n0 n1 (by rw [← hj]; rfl) (by decide) (n_k13 Cx hl hlt hz hP hD hS hf kk)
        | 14, hj, _ => exact lv_tableIn (tgt := 632) hx hb hd n0 n1 (by rw [← hj]; rfl) (by decide) (n_k14 Cx hl hlt hz hP hD hS hf kk)
        | 15, hj, _ => exact lv_tableIn (tgt := 655) hx hb hd n0 n1 (by rw [← hj]; rfl) (by decide) (n_k15 Cx hl hlt hz hP hD hS hf kk)
        | 16, hj, _ => exact lv_tableIn (tgt := 688) hx hb hd n0 n1 (by rw [← hj]; rfl) (by decide) (n_k16 Cx hl hlt hz hP hD hS hf kk)
        | 17, hj, _ => exact lv_tableIn (tgt := 741) hx hb hd n0 n1 (by rw [← hj]; rfl) (by decide) (n_k17 Cx hl hlt hz hP hD hS hf kk)
        | 18, hj, _ => exact lv_tableIn (tgt := 784) hx hb hd n0 n1 (by rw [← hj]; rfl) (by decide) (n_k18 Cx hl hlt hz hP hD hS hf kk)
        | 19, hj, _ => exact lv_tableIn (tgt := 827) hx hb hd n0 n1 (by rw [← hj]; rfl) (by decide) (n_k19 Cx hl hlt hz hP hD hS hf kk)
        | 20, hj, _ => exact lv_tableIn (tgt := 860) hx hb hd n0 n1 (by rw [← hj]; rfl) (by decide) (n_k20 Cx hl hlt hz hP hD hS hf kk)
        | 21, hj, _ => exact lv_tableIn (tgt := 873) hx hb hd n0 n1 (by rw [← hj]; rfl) (by decide) (n_k21 Cx hl hlt hz hP hD hS hf kk)
        | 22, hj, _ => exact lv_tableIn (tgt := 936) hx hb hd n0 n1 (by rw [← hj]; rfl) (by decide) (n_k22 Cx hl hlt hz hP hD hS hf kk)
        | 23, hj, _ => exact lv_tableIn (tgt := 949) hx hb hd n0 n1 (by rw [← hj]; rfl) (by decide) (n_k23 Cx hl hlt hz hP hD hS hf kk)
        | 24, hj, _ => exact lv_tableIn (tgt := 982) hx hb hd n0 n1 (by rw [← hj]; rfl) (by decide) (n_k24 Cx hl hlt hz hP hD hS hf kk)
        | 25, hj, _ => exact lv_tableIn (tgt := 995) hx hb hd n0 n1 (by rw [← hj]; rfl) (by decide) (n_k25 Cx hl hlt hz hP hD hS hf kk)
        | 26, hj, _ => exact lv_tableIn (tgt := 1018) hx hb hd n0 n1 (by rw [← hj]; rfl) (by decide) (n_k26 Cx hl hlt hz hP hD hS hf kk)
        | 27, hj, _ => exact lv_tableIn (tgt := 1041) hx hb hd n0 n1 (by rw [← hj]; rfl) (by decide) (n_k27 Cx hl hlt hz hP hD hS hf kk)
        | 28, hj, _ => exact lv_tableIn (tgt := 1074) hx hb hd n0 n1 (by rw [← hj]; rfl) (by decide) (n_k28 Cx hl hlt hz hP hD hS hf kk)
        | 29, hj, _ => exact lv_tableIn (tgt := 1117) hx hb hd n0 n1 (by rw [← hj]; rfl) (by decide) (n_k29 Cx hl hlt hz hP hD hS hf kk)
        | 30, hj, _ => exact lv_tableIn (tgt := 1130) hx hb hd n0 n1 (by rw [← hj]; rfl) (by decide) (n_k30 Cx hl hlt hz hP hD hS hf kk)
        | 31, hj, _ => exact lv_tableIn (tgt := 1173) hx hb hd n0 n1 (by rw [← hj]; rfl) (by decide) (n_k31 Cx hl hlt hz hP hD hS hf kk)
        | 32, hj, _ => exact lv_tableIn (tgt := 1196) hx hb hd n0 n1 (by rw [← hj]; rfl) (by decide) (n_k32 Cx hl hlt hz hP hD hS hf kk)
        | 33, hj, _ => exact lv_tableIn (tgt := 1219) hx hb hd n0 n1 (by rw [← hj]; rfl) (by decide) (n_k33 Cx hl hlt hz hP hD hS hf kk)
        | 34, hj, _ => exact lv_tableIn (tgt := 1242) hx hb hd n0 n1 (by rw [← hj]; rfl) (by decide) (n_k34 Cx hl hlt hz hP hD hS hf kk)
        | 35, hj, _ => exact lv_tableIn (tgt := 1265) hx hb hd n0 n1 (by rw [← hj]; rfl) (by decide) (n_k35 Cx hl hlt hz hP hD hS hf kk)
        | 36, hj, _ => exact lv_tableIn (tgt := 1324) hx hb hd n0 n1 (by rw [← hj]; rfl) (by decide) (n_k36 Cx hl hlt hz hP hD hS hf kk)
        | 37, hj, _ => exact lv_tableIn (tgt := 1393) hx hb hd n0 n1 (by rw [← hj]; rfl) (by decide) (n_k37 Cx hl hlt hz hP hD hS hf kk)
        | 38, hj, _ => exact lv_tableIn (tgt := 1436) hx hb hd n0 n1 (by rw [← hj]; rfl) (by decide) (n_k38 Cx hl hlt hz hP hD hS hf kk)
        | 39, hj, _ => exact lv_tableIn (tgt := 1479) hx hb hd n0 n1 (by rw [← hj]; rfl) (by decide) (n_k39 Cx hl hlt hz hP hD hS hf kk)
        | 40, hj, _ => exact lv_tableIn (tgt := 1522) hx hb hd n0 n1 (by rw [← hj]; rfl) (by decide) (n_k40 Cx hl hlt hz hP hD hS hf kk)
        | 41, hj, _ => exact lv_tableIn (tgt := 1565) hx hb hd n0 n1 (by rw [← hj]; rfl) (by decide) (n_k41 Cx hl hlt hz hP hD hS hf kk)
        | 42, hj, _ => exact lv_tableIn (tgt := 1608) hx hb hd n0 n1 (by rw [← hj]; rfl) (by decide) (n_k42 Cx hl hlt hz hP hD hS hf kk)
        | 43, hj, _ => exact lv_tableIn (tgt := 1641) hx hb hd n0 n1 (by rw [← hj]; rfl) (by decide) (n_k43 Cx hl hlt hz hP hD hS hf kk)
        | 44, hj, _ => exact lv_tableIn (tgt := 1684) hx hb hd n0 n1 (by rw [← hj]; rfl) (by decide) (n_k44 Cx hl hlt hz hP hD hS hf kk)
        | 45, hj, _ => exact lv_tableIn (tgt := 1707) hx hb hd n0 n1 (by rw [← hj]; rfl) (by decide) (n_k45 Cx hl hlt hz hP hD hS hf kk)
        | 46, hj, _ => exact lv_tableIn (tgt := 1730) hx hb hd n0 n1 (by rw [← hj]; rfl) (by decide) (n_k46 Cx hl hlt hz hP hD hS hf kk)
        | 47, hj, _ => exact lv_tableIn (tgt := 1743) hx hb hd n0 n1 (by rw [← hj]; rfl) (by decide) (n_k47 Cx hl hlt hz hP hD hS hf kk)
        | j + 48, _, h => exact absurd h (by omega)
