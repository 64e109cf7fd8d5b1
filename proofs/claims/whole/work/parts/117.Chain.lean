/-! PURE, part 47: chain, unchain -/
theorem zup_row {z : zH} {o : Nat} {k v : Int} : zup z o k v o = mPut (z o) k v := by
  funext j
  rw [zup_at]
  unfold mPut
  simp only [true_and]
theorem bnd {a : Int} {n : Nat} (h0 : 0 ≤ a) (h1 : a < n) (hn : n ≤ 10000) : ¬ (zI a < zI 0 ∨ n ≤ (zI a).toNatClampNeg) := by
  have r : zR a := zR_s (by omega)
  rw [zI_lt r (zR_s (by omega)), zI_nat r]
  omega
theorem xbd_m (a : Int32) (h : xH) (f : Int32 → xH → xO) : xbd (some (a, h)) f = f a h := by rw [xbd_s]
theorem y_isPlace (d : Nat) {p : Int} (h : 0 ≤ p ∧ p < 768) (z : zH) : cM (d + 1) 50 [xI (zI p)] (hI z) = some (zI 1, hI z) := by
  rw [e_X6_isPlace]
  simp only [zLit]
  rw [if_neg (by rw [zI_lt (zR_s (by omega)) (zR_s (by omega))]; omega), if_pos (by rw [zI_lt (zR_s (by omega)) (zR_s (by omega))]; omega)]
theorem o_isPlace (d : Nat) {p : Int} (h : p < 0) (hr : zR p) (z : zH) : cM (d + 1) 50 [xI (zI p)] (hI z) = some (zI 0, hI z) := by
  rw [e_X6_isPlace]
  simp only [zLit]
  rw [if_pos (by rw [zI_lt hr (zR_s (by omega))]; omega)]
theorem y_isHeight (d : Nat) {p : Int} (h : 0 ≤ p ∧ p ≤ 99) (z : zH) : cM (d + 1) 51 [xI (zI p)] (hI z) = some (zI 1, hI z) := by
  rw [e_X6_isHeight]
  simp only [zLit]
  rw [if_neg (by rw [zI_lt (zR_s (by omega)) (zR_s (by omega))]; omega), if_neg (by rw [zI_lt (zR_s (by omega)) (zR_s (by omega))]; omega)]
theorem nI10 : ¬ zI 1 = zI 0 := by decide
theorem c_chain (d : Nat) {z : zH} (hz : zRR z) {p H : Int} (hp : 0 ≤ p ∧ p < 768) (hH : 0 ≤ H ∧ H ≤ 99) (hc : z 52 H = -1 ∨ (0 ≤ z 52 H ∧ z 52 H < 768)) : xw (cM (d + 2) 52 [xR 22 50, xI (zI p), xI (zI H)] (hI z)) (fun _ z' => z' 53 = mPut (z 53) p (z 52 H) ∧ z' 54 = pvPut (mPut (z 54) p (-1)) (z 52 H) p ∧ z' 52 = mPut (z 52) H p ∧ fr [52, 53, 54] z z') := by
  have pr : zR p := zR_s (by omega)
  have Hr : zR H := zR_s (by omega)
  have m1 : zR (-1) := zR_s (by omega)
  have bp := bnd (n := 768) hp.1 (by omega) (by omega)
  have bH := bnd (n := 100) hH.1 (by omega) (by omega)
  have eH : hI z 52 (zI H).toNatClampNeg = zI (z 52 H) := by rw [zI_nat Hr, zld hH.1]
  rw [e_X6_chain]
  simp only [zLit, zI_neg]
  rw [y_isPlace _ hp, xbd_m, if_neg nI10, y_isHeight _ hH, xbd_m, if_neg nI10]
  simp only [lenX_s, if_neg bp, if_neg bH, eH]
  simp only [zI_nat pr, zI_nat Hr, zst hp.1]
  rcases hc with q | q
  · rw [o_isPlace _ (p := z 52 H) (by omega) (hz _ _), xbd_m, if_pos rfl, zst hH.1]
    have y : zRR (zup (zup (zup z 54 p (-1)) 53 p (z 52 H)) 52 H p) := zRR_up (zRR_up (zRR_up hz _ _ m1) _ _ (hz _ _)) _ _ pr
    refine xw_ret (zR_s (by omega)) y ⟨?_, ?_, ?_, ?_⟩
    · rw [zup_ne _ _ _ (by decide), zup_row, zup_ne _ _ _ (by decide)]
    · rw [zup_ne _ _ _ (by decide), zup_ne _ _ _ (by decide), zup_row]
      unfold pvPut
      rw [if_pos q]
    · rw [zup_row, zup_ne _ _ _ (by decide), zup_ne _ _ _ (by decide)]
    · exact fr_up (fr_up (fr_up (fr_rf _ _) _ _ rfl) _ _ rfl) _ _ rfl
  · have bq := bnd (n := 768) q.1 (by omega) (by omega)
    have qr : zR (z 52 H) := hz _ _
    rw [y_isPlace _ q, xbd_m, if_neg nI10]
    simp only [if_neg bq]
    simp only [zI_nat qr, zst q.1]
    have y : zRR (zup (zup (zup (zup z 54 p (-1)) 53 p (z 52 H)) 54 (z 52 H) p) 52 H p) := zRR_up (zRR_up (zRR_up (zRR_up hz _ _ m1) _ _ (hz _ _)) _ _ pr) _ _ pr
    simp only [zst hH.1]
    refine xw_ret (zR_s (by omega)) y ⟨?_, ?_, ?_, ?_⟩
    · rw [zup_ne _ _ _ (by decide), zup_ne _ _ _ (by decide), zup_row, zup_ne _ _ _ (by decide)]
    · rw [zup_ne _ _ _ (by decide), zup_row, zup_ne _ _ _ (by decide), zup_row]
      unfold pvPut
      rw [if_neg (by omega)]
    · rw [zup_row, zup_ne _ _ _ (by decide), zup_ne _ _ _ (by decide), zup_ne _ _ _ (by decide)]
    · exact fr_up (fr_up (fr_up (fr_up (fr_rf _ _) _ _ rfl) _ _ rfl) _ _ rfl) _ _ rfl
theorem c_unchain (d : Nat) {z : zH} (hz : zRR z) {p H : Int} (hp : 0 ≤ p ∧ p < 768) (hH : 0 ≤ H ∧ H ≤ 99) (hn : z 53 p = -1 ∨ (0 ≤ z 53 p ∧ z 53 p < 768)) (hv : z 54 p = -1 ∨ (0 ≤ z 54 p ∧ z 54 p < 768)) : xw (cM (d + 2) 53 [xR 22 50, xI (zI p), xI (zI H)] (hI z)) (fun _ z' => z' 54 = pvPut (z 54) (z 53 p) (z 54 p) ∧ (z 54 p = -1 → z' 52 = mPut (z 52) H (z 53 p) ∧ z' 53 = z 53) ∧ (z 54 p ≠ -1 → z' 52 = z 52 ∧ z' 53 = mPut (z 53) (z 54 p) (z 53 p)) ∧ fr [52, 53, 54] z z') := by
  have pr : zR p := zR_s (by omega)
  have Hr : zR H := zR_s (by omega)
  have m1 : zR (-1) := zR_s (by omega)
  have nr : zR (z 53 p) := hz _ _
  have vr : zR (z 54 p) := hz _ _
  have bp := bnd (n := 768) hp.1 (by omega) (by omega)
  have bH := bnd (n := 100) hH.1 (by omega) (by omega)
  have e3 : hI z 53 (zI p).toNatClampNeg = zI (z 53 p) := by rw [zI_nat pr, zld hp.1]
  have e4 : hI z 54 (zI p).toNatClampNeg = zI (z 54 p) := by rw [zI_nat pr, zld hp.1]
  rw [e_X6_unchain]
  simp only [zLit]
  rw [y_isPlace _ hp, xbd_m, if_neg nI10, y_isHeight _ hH, xbd_m, if_neg nI10]
  simp only [lenX_s, if_neg bp, if_neg bH, e3, e4]
  simp only [zI_nat Hr]
  rcases hv with q | q
  · rw [o_isPlace _ (p := z 54 p) (by omega) vr, xbd_m, if_pos rfl, zst hH.1]
    rcases hn with w | w
    · rw [o_isPlace _ (p := z 53 p) (by omega) nr, xbd_m, if_pos rfl]
      refine xw_ret (zR_s (by omega)) (zRR_up hz 52 H nr) ⟨?_, fun _ => ⟨?_, ?_⟩, fun x => absurd q x, ?_⟩
      · rw [zup_ne _ _ _ (by decide)]
        unfold pvPut
        rw [if_pos w]
      · rw [zup_row]
      · rw [zup_ne _ _ _ (by decide)]
      · exact fr_up (fr_rf _ _) _ _ rfl
    · have bw := bnd (n := 768) w.1 (by omega) (by omega)
      rw [y_isPlace _ w, xbd_m, if_neg nI10]
      simp only [if_neg bw]
      simp only [zI_nat nr, zst w.1]
      refine xw_ret (zR_s (by omega)) (zRR_up (zRR_up hz 52 H nr) 54 (z 53 p) vr) ⟨?_, fun _ => ⟨?_, ?_⟩, fun x => absurd q x, ?_⟩
      · rw [zup_row, zup_ne _ _ _ (by decide)]
        unfold pvPut
        rw [if_neg (by omega)]
      · rw [zup_ne _ _ _ (by decide), zup_row]
      · rw [zup_ne _ _ _ (by decide), zup_ne _ _ _ (by decide)]
      · exact fr_up (fr_up (fr_rf _ _) _ _ rfl) _ _ rfl
  · have bq := bnd (n := 768) q.1 (by omega) (by omega)
    rw [y_isPlace _ q, xbd_m, if_neg nI10]
    simp only [if_neg bq]
    simp only [zI_nat vr, zst q.1]
    rcases hn with w | w
    · rw [o_isPlace _ (p := z 53 p) (by omega) nr, xbd_m, if_pos rfl]
      refine xw_ret (zR_s (by omega)) (zRR_up hz 53 (z 54 p) nr) ⟨?_, fun x => absurd x (by omega), fun _ => ⟨?_, ?_⟩, ?_⟩
      · rw [zup_ne _ _ _ (by decide)]
        unfold pvPut
        rw [if_pos w]
      · rw [zup_ne _ _ _ (by decide)]
      · rw [zup_row]
      · exact fr_up (fr_rf _ _) _ _ rfl
    · have bw := bnd (n := 768) w.1 (by omega) (by omega)
      rw [y_isPlace _ w, xbd_m, if_neg nI10]
      simp only [if_neg bw]
      simp only [zI_nat nr, zst w.1]
      refine xw_ret (zR_s (by omega)) (zRR_up (zRR_up hz 53 (z 54 p) nr) 54 (z 53 p) vr) ⟨?_, fun x => absurd x (by omega), fun _ => ⟨?_, ?_⟩, ?_⟩
      · rw [zup_row, zup_ne _ _ _ (by decide)]
        unfold pvPut
        rw [if_neg (by omega)]
      · rw [zup_ne _ _ _ (by decide), zup_ne _ _ _ (by decide)]
      · rw [zup_ne _ _ _ (by decide), zup_row]
      · exact fr_up (fr_up (fr_rf _ _) _ _ rfl) _ _ rfl
