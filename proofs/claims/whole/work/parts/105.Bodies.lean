/-! PURE, part 35: each body of ASKS on both sides -/
theorem beg_f (z : zH) (b : Int) : spBeg z b 66 2 = z 66 2 ∧ spBeg z b 66 3 = z 66 3 ∧ spBeg z b 66 4 = z 66 4 := by
  unfold spBeg
  split <;> simp only [zup_at, and_self, and_true, true_and, and_false, false_and, if_true, if_false, reduceIte, Int.reduceEq, reduceCtorEq, Nat.reduceEqDiff]
theorem begM_f (y : zH) (b : Int) : spBegM y b 100 41 = y 100 41 ∧ spBegM y b 100 42 = y 100 42 ∧ spBegM y b 100 43 = y 100 43 := by
  unfold spBegM
  split <;> simp only [zup_at, and_self, and_true, true_and, and_false, false_and, if_true, if_false, reduceIte, Int.reduceEq, reduceCtorEq, Nat.reduceEqDiff]
def rB10 (d : Nat) (x dp : Int32) (h : xH) : xO := some (x + h 66 4, h)
def mB10 (d : Nat) (x : Int32) (h : xH) : xO := some (x + h 100 43, h)
theorem c_run10 (d : Nat) {z : zH} (hz : zRR z) (hc : 0 ≤ z 66 1 ∧ z 66 1 ≤ 30) (x dp : Int32) : cM (d + 1) 5 [xR 16 66, xI (zI 10), xI x, xI dp] (hI z) = rB10 d x dp (hI (spBeg z 10)) := by
  have hr : zR (z 66 1) := hz _ _
  have hr0 : zR 0 := zR_s (by omega)
  have bf := beg_f z 10
  rw [e_X0_run]
  unfold rB10
  simp only [zLit, hI_fs, lenX_s, zI_nI, bf.1, bf.2.1, bf.2.2]
  by_cases q : z 66 1 < 30
  · have e : hI (spBeg z 10) = xup (xup (hI z) 67 (zI (z 66 1)).toNatClampNeg (zI 10)) 66 1 (zI (z 66 1) + zI 1) := by
      unfold spBeg
      rw [if_pos q, zI_nat hr, zst hc.1, zI_add]
      simp only [hI_us]
    rw [if_pos (by rw [show ((30 : Nat) : Int) = 30 from rfl, zI_lt hr (zR_s (by omega))]; exact q), if_neg (by rw [zI_lt hr hr0, zI_nat hr]; omega), e]
    rfl
  · have e : spBeg z 10 = z := by unfold spBeg; rw [if_neg q]
    rw [if_neg (by rw [show ((30 : Nat) : Int) = 30 from rfl, zI_lt hr (zR_s (by omega))]; exact q), e]
    rfl
theorem m_body10 (d : Nat) {y : zH} (hy : zRR y) (hc : 0 ≤ y 100 40 ∧ y 100 40 ≤ 30) (x : Int32) : cM (d + 2) 256 [xR 28 100, xI (zI 0), xI (zI 0), xI x] (hI y) = mB10 (d + 1) x (hI (spBegM y 10)) := by
  have mb := fun d b => m_began d hy hc (b := b)
  rw [e_X12_body]
  unfold mB10
  simp only [zLit, zI_mul, zI_add, mb, xbd_n]
  rfl
def rB11 (d : Nat) (x dp : Int32) (h : xH) : xO := xbd (cM d 4 [xR 16 66, xI (h 66 2), xI (zI 0), xI (x), xI dp] h) fun r h => some (r * zI 2, h)
def mB11 (d : Nat) (x : Int32) (h : xH) : xO := xbd (cM d 254 [xR 28 100, xI (zI 0), xI (x)] h) fun r h => some (r * zI 2, h)
theorem c_run11 (d : Nat) {z : zH} (hz : zRR z) (hc : 0 ≤ z 66 1 ∧ z 66 1 ≤ 30) (x dp : Int32) : cM (d + 1) 5 [xR 16 66, xI (zI 11), xI x, xI dp] (hI z) = rB11 d x dp (hI (spBeg z 11)) := by
  have hr : zR (z 66 1) := hz _ _
  have hr0 : zR 0 := zR_s (by omega)
  have bf := beg_f z 11
  rw [e_X0_run]
  unfold rB11
  simp only [zLit, hI_fs, lenX_s, zI_nI, bf.1, bf.2.1, bf.2.2]
  by_cases q : z 66 1 < 30
  · have e : hI (spBeg z 11) = xup (xup (hI z) 67 (zI (z 66 1)).toNatClampNeg (zI 11)) 66 1 (zI (z 66 1) + zI 1) := by
      unfold spBeg
      rw [if_pos q, zI_nat hr, zst hc.1, zI_add]
      simp only [hI_us]
    rw [if_pos (by rw [show ((30 : Nat) : Int) = 30 from rfl, zI_lt hr (zR_s (by omega))]; exact q), if_neg (by rw [zI_lt hr hr0, zI_nat hr]; omega), e]
    rfl
  · have e : spBeg z 11 = z := by unfold spBeg; rw [if_neg q]
    rw [if_neg (by rw [show ((30 : Nat) : Int) = 30 from rfl, zI_lt hr (zR_s (by omega))]; exact q), e]
    rfl
theorem m_body11 (d : Nat) {y : zH} (hy : zRR y) (hc : 0 ≤ y 100 40 ∧ y 100 40 ≤ 30) (x : Int32) : cM (d + 2) 256 [xR 28 100, xI (zI 0), xI (zI 1), xI x] (hI y) = mB11 (d + 1) x (hI (spBegM y 11)) := by
  have mb := fun d b => m_began d hy hc (b := b)
  rw [e_X12_body]
  unfold mB11
  simp only [zLit, zI_mul, zI_add, mb, xbd_n]
  rfl
def rB12 (d : Nat) (x dp : Int32) (h : xH) : xO := xbd (cM d 6 [xR 16 66, xI x, xI (h 66 4 - h 66 3)] h) fun r h => some (r, h)
def mB12 (d : Nat) (x : Int32) (h : xH) : xO := if h 100 43 = h 100 42 then some (zI 0, xup h 100 44 (zI 1)) else (if h 100 43 - h 100 42 = zI 0 then none else some (x / (h 100 43 - h 100 42), xup h 100 44 (zI 0)))
theorem c_run12 (d : Nat) {z : zH} (hz : zRR z) (hc : 0 ≤ z 66 1 ∧ z 66 1 ≤ 30) (x dp : Int32) : cM (d + 1) 5 [xR 16 66, xI (zI 12), xI x, xI dp] (hI z) = rB12 d x dp (hI (spBeg z 12)) := by
  have hr : zR (z 66 1) := hz _ _
  have hr0 : zR 0 := zR_s (by omega)
  have bf := beg_f z 12
  rw [e_X0_run]
  unfold rB12
  simp only [zLit, hI_fs, lenX_s, zI_nI, bf.1, bf.2.1, bf.2.2]
  by_cases q : z 66 1 < 30
  · have e : hI (spBeg z 12) = xup (xup (hI z) 67 (zI (z 66 1)).toNatClampNeg (zI 12)) 66 1 (zI (z 66 1) + zI 1) := by
      unfold spBeg
      rw [if_pos q, zI_nat hr, zst hc.1, zI_add]
      simp only [hI_us]
    rw [if_pos (by rw [show ((30 : Nat) : Int) = 30 from rfl, zI_lt hr (zR_s (by omega))]; exact q), if_neg (by rw [zI_lt hr hr0, zI_nat hr]; omega), e]
    rfl
  · have e : spBeg z 12 = z := by unfold spBeg; rw [if_neg q]
    rw [if_neg (by rw [show ((30 : Nat) : Int) = 30 from rfl, zI_lt hr (zR_s (by omega))]; exact q), e]
    rfl
theorem m_body12 (d : Nat) {y : zH} (hy : zRR y) (hc : 0 ≤ y 100 40 ∧ y 100 40 ≤ 30) (x : Int32) : cM (d + 2) 256 [xR 28 100, xI (zI 0), xI (zI 2), xI x] (hI y) = mB12 (d + 1) x (hI (spBegM y 12)) := by
  have mb := fun d b => m_began d hy hc (b := b)
  rw [e_X12_body]
  unfold mB12
  simp only [zLit, zI_mul, zI_add, mb, xbd_n]
  rfl
def rB13 (d : Nat) (x dp : Int32) (h : xH) : xO := xbd (cM d 4 [xR 16 66, xI (h 66 2), xI (zI 1), xI (x), xI dp] h) fun r h => some (r ^^^ h 66 3, h)
def mB13 (d : Nat) (x : Int32) (h : xH) : xO := xbd (cM d 254 [xR 28 100, xI (zI 1), xI (x)] h) fun r h => some (r ^^^ h 100 42, h)
theorem c_run13 (d : Nat) {z : zH} (hz : zRR z) (hc : 0 ≤ z 66 1 ∧ z 66 1 ≤ 30) (x dp : Int32) : cM (d + 1) 5 [xR 16 66, xI (zI 13), xI x, xI dp] (hI z) = rB13 d x dp (hI (spBeg z 13)) := by
  have hr : zR (z 66 1) := hz _ _
  have hr0 : zR 0 := zR_s (by omega)
  have bf := beg_f z 13
  rw [e_X0_run]
  unfold rB13
  simp only [zLit, hI_fs, lenX_s, zI_nI, bf.1, bf.2.1, bf.2.2]
  by_cases q : z 66 1 < 30
  · have e : hI (spBeg z 13) = xup (xup (hI z) 67 (zI (z 66 1)).toNatClampNeg (zI 13)) 66 1 (zI (z 66 1) + zI 1) := by
      unfold spBeg
      rw [if_pos q, zI_nat hr, zst hc.1, zI_add]
      simp only [hI_us]
    rw [if_pos (by rw [show ((30 : Nat) : Int) = 30 from rfl, zI_lt hr (zR_s (by omega))]; exact q), if_neg (by rw [zI_lt hr hr0, zI_nat hr]; omega), e]
    rfl
  · have e : spBeg z 13 = z := by unfold spBeg; rw [if_neg q]
    rw [if_neg (by rw [show ((30 : Nat) : Int) = 30 from rfl, zI_lt hr (zR_s (by omega))]; exact q), e]
    rfl
theorem m_body13 (d : Nat) {y : zH} (hy : zRR y) (hc : 0 ≤ y 100 40 ∧ y 100 40 ≤ 30) (x : Int32) : cM (d + 2) 256 [xR 28 100, xI (zI 0), xI (zI 3), xI x] (hI y) = mB13 (d + 1) x (hI (spBegM y 13)) := by
  have mb := fun d b => m_began d hy hc (b := b)
  rw [e_X12_body]
  unfold mB13
  simp only [zLit, zI_mul, zI_add, mb, xbd_n]
  rfl
def rB20 (d : Nat) (x dp : Int32) (h : xH) : xO := xbd (cM d 4 [xR 16 66, xI (zI 0), xI (zI 1), xI (x), xI dp] h) fun r h => some (r - zI 3, h)
def mB20 (d : Nat) (x : Int32) (h : xH) : xO := xbd (cM d 255 [xR 28 100, xI (zI 0), xI (zI 1), xI (x)] h) fun r h => some (r - zI 3, h)
theorem c_run20 (d : Nat) {z : zH} (hz : zRR z) (hc : 0 ≤ z 66 1 ∧ z 66 1 ≤ 30) (x dp : Int32) : cM (d + 1) 5 [xR 16 66, xI (zI 20), xI x, xI dp] (hI z) = rB20 d x dp (hI (spBeg z 20)) := by
  have hr : zR (z 66 1) := hz _ _
  have hr0 : zR 0 := zR_s (by omega)
  have bf := beg_f z 20
  rw [e_X0_run]
  unfold rB20
  simp only [zLit, hI_fs, lenX_s, zI_nI, bf.1, bf.2.1, bf.2.2]
  by_cases q : z 66 1 < 30
  · have e : hI (spBeg z 20) = xup (xup (hI z) 67 (zI (z 66 1)).toNatClampNeg (zI 20)) 66 1 (zI (z 66 1) + zI 1) := by
      unfold spBeg
      rw [if_pos q, zI_nat hr, zst hc.1, zI_add]
      simp only [hI_us]
    rw [if_pos (by rw [show ((30 : Nat) : Int) = 30 from rfl, zI_lt hr (zR_s (by omega))]; exact q), if_neg (by rw [zI_lt hr hr0, zI_nat hr]; omega), e]
    rfl
  · have e : spBeg z 20 = z := by unfold spBeg; rw [if_neg q]
    rw [if_neg (by rw [show ((30 : Nat) : Int) = 30 from rfl, zI_lt hr (zR_s (by omega))]; exact q), e]
    rfl
theorem m_body20 (d : Nat) {y : zH} (hy : zRR y) (hc : 0 ≤ y 100 40 ∧ y 100 40 ≤ 30) (x : Int32) : cM (d + 2) 256 [xR 28 100, xI (zI 1), xI (zI 1), xI x] (hI y) = mB20 (d + 1) x (hI (spBegM y 20)) := by
  have mb := fun d b => m_began d hy hc (b := b)
  rw [e_X12_body]
  unfold mB20
  simp only [zLit, zI_mul, zI_add, mb, xbd_n]
  rfl
def rB30 (d : Nat) (x dp : Int32) (h : xH) : xO := xbd (cM d 4 [xR 16 66, xI (zI 1), xI (zI 0), xI (x), xI dp] h) fun r h => some (r * zI 5, h)
def mB30 (d : Nat) (x : Int32) (h : xH) : xO := xbd (cM d 255 [xR 28 100, xI (zI 1), xI (zI 0), xI (x)] h) fun r h => some (r * zI 5, h)
theorem c_run30 (d : Nat) {z : zH} (hz : zRR z) (hc : 0 ≤ z 66 1 ∧ z 66 1 ≤ 30) (x dp : Int32) : cM (d + 1) 5 [xR 16 66, xI (zI 30), xI x, xI dp] (hI z) = rB30 d x dp (hI (spBeg z 30)) := by
  have hr : zR (z 66 1) := hz _ _
  have hr0 : zR 0 := zR_s (by omega)
  have bf := beg_f z 30
  rw [e_X0_run]
  unfold rB30
  simp only [zLit, hI_fs, lenX_s, zI_nI, bf.1, bf.2.1, bf.2.2]
  by_cases q : z 66 1 < 30
  · have e : hI (spBeg z 30) = xup (xup (hI z) 67 (zI (z 66 1)).toNatClampNeg (zI 30)) 66 1 (zI (z 66 1) + zI 1) := by
      unfold spBeg
      rw [if_pos q, zI_nat hr, zst hc.1, zI_add]
      simp only [hI_us]
    rw [if_pos (by rw [show ((30 : Nat) : Int) = 30 from rfl, zI_lt hr (zR_s (by omega))]; exact q), if_neg (by rw [zI_lt hr hr0, zI_nat hr]; omega), e]
    rfl
  · have e : spBeg z 30 = z := by unfold spBeg; rw [if_neg q]
    rw [if_neg (by rw [show ((30 : Nat) : Int) = 30 from rfl, zI_lt hr (zR_s (by omega))]; exact q), e]
    rfl
theorem m_body30 (d : Nat) {y : zH} (hy : zRR y) (hc : 0 ≤ y 100 40 ∧ y 100 40 ≤ 30) (x : Int32) : cM (d + 2) 256 [xR 28 100, xI (zI 2), xI (zI 0), xI x] (hI y) = mB30 (d + 1) x (hI (spBegM y 30)) := by
  have mb := fun d b => m_began d hy hc (b := b)
  rw [e_X12_body]
  unfold mB30
  simp only [zLit, zI_mul, zI_add, mb, xbd_n]
  rfl
def rB31 (d : Nat) (x dp : Int32) (h : xH) : xO := xbd (cM d 4 [xR 16 66, xI (zI 1), xI (zI 3), xI (x), xI dp] h) fun r h => xbd (cM d 4 [xR 16 66, xI (h 66 2), xI (zI 2), xI (h 66 3 + zI 2), xI dp] h) fun s h => some (r + s, h)
def mB31 (d : Nat) (x : Int32) (h : xH) : xO := xbd (cM d 255 [xR 28 100, xI (zI 1), xI (zI 3), xI (x)] h) fun r h => xbd (cM d 254 [xR 28 100, xI (zI 2), xI (h 100 42 + zI 2)] h) fun s h => some (r + s, h)
theorem c_run31 (d : Nat) {z : zH} (hz : zRR z) (hc : 0 ≤ z 66 1 ∧ z 66 1 ≤ 30) (x dp : Int32) : cM (d + 1) 5 [xR 16 66, xI (zI 31), xI x, xI dp] (hI z) = rB31 d x dp (hI (spBeg z 31)) := by
  have hr : zR (z 66 1) := hz _ _
  have hr0 : zR 0 := zR_s (by omega)
  have bf := beg_f z 31
  rw [e_X0_run]
  unfold rB31
  simp only [zLit, hI_fs, lenX_s, zI_nI, bf.1, bf.2.1, bf.2.2]
  by_cases q : z 66 1 < 30
  · have e : hI (spBeg z 31) = xup (xup (hI z) 67 (zI (z 66 1)).toNatClampNeg (zI 31)) 66 1 (zI (z 66 1) + zI 1) := by
      unfold spBeg
      rw [if_pos q, zI_nat hr, zst hc.1, zI_add]
      simp only [hI_us]
    rw [if_pos (by rw [show ((30 : Nat) : Int) = 30 from rfl, zI_lt hr (zR_s (by omega))]; exact q), if_neg (by rw [zI_lt hr hr0, zI_nat hr]; omega), e]
    rfl
  · have e : spBeg z 31 = z := by unfold spBeg; rw [if_neg q]
    rw [if_neg (by rw [show ((30 : Nat) : Int) = 30 from rfl, zI_lt hr (zR_s (by omega))]; exact q), e]
    rfl
theorem m_body31 (d : Nat) {y : zH} (hy : zRR y) (hc : 0 ≤ y 100 40 ∧ y 100 40 ≤ 30) (x : Int32) : cM (d + 2) 256 [xR 28 100, xI (zI 2), xI (zI 3), xI x] (hI y) = mB31 (d + 1) x (hI (spBegM y 31)) := by
  have mb := fun d b => m_began d hy hc (b := b)
  rw [e_X12_body]
  unfold mB31
  simp only [zLit, zI_mul, zI_add, mb, xbd_n]
  rfl
def rB40 (d : Nat) (x dp : Int32) (h : xH) : xO := xbd (cM d 4 [xR 16 66, xI (zI 0), xI (zI 1), xI (x), xI dp] h) fun r h => some (zI 0 - r, h)
def mB40 (d : Nat) (x : Int32) (h : xH) : xO := xbd (cM d 255 [xR 28 100, xI (zI 0), xI (zI 1), xI (x)] h) fun r h => some (zI 0 - r, h)
theorem c_run40 (d : Nat) {z : zH} (hz : zRR z) (hc : 0 ≤ z 66 1 ∧ z 66 1 ≤ 30) (x dp : Int32) : cM (d + 1) 5 [xR 16 66, xI (zI 40), xI x, xI dp] (hI z) = rB40 d x dp (hI (spBeg z 40)) := by
  have hr : zR (z 66 1) := hz _ _
  have hr0 : zR 0 := zR_s (by omega)
  have bf := beg_f z 40
  rw [e_X0_run]
  unfold rB40
  simp only [zLit, hI_fs, lenX_s, zI_nI, bf.1, bf.2.1, bf.2.2]
  by_cases q : z 66 1 < 30
  · have e : hI (spBeg z 40) = xup (xup (hI z) 67 (zI (z 66 1)).toNatClampNeg (zI 40)) 66 1 (zI (z 66 1) + zI 1) := by
      unfold spBeg
      rw [if_pos q, zI_nat hr, zst hc.1, zI_add]
      simp only [hI_us]
    rw [if_pos (by rw [show ((30 : Nat) : Int) = 30 from rfl, zI_lt hr (zR_s (by omega))]; exact q), if_neg (by rw [zI_lt hr hr0, zI_nat hr]; omega), e]
    rfl
  · have e : spBeg z 40 = z := by unfold spBeg; rw [if_neg q]
    rw [if_neg (by rw [show ((30 : Nat) : Int) = 30 from rfl, zI_lt hr (zR_s (by omega))]; exact q), e]
    rfl
theorem m_body40 (d : Nat) {y : zH} (hy : zRR y) (hc : 0 ≤ y 100 40 ∧ y 100 40 ≤ 30) (x : Int32) : cM (d + 2) 256 [xR 28 100, xI (zI 3), xI (zI 1), xI x] (hI y) = mB40 (d + 1) x (hI (spBegM y 40)) := by
  have mb := fun d b => m_began d hy hc (b := b)
  rw [e_X12_body]
  unfold mB40
  simp only [zLit, zI_mul, zI_add, mb, xbd_n]
  rfl
def rB50 (d : Nat) (x dp : Int32) (h : xH) : xO := xbd (cM d 4 [xR 16 66, xI (zI 0), xI (zI 2), xI (x + zI 1), xI dp] h) fun r h => some (r, h)
def mB50 (d : Nat) (x : Int32) (h : xH) : xO := xbd (cM d 255 [xR 28 100, xI (zI 0), xI (zI 2), xI (x + zI 1)] h) fun r h => some (r, h)
theorem c_run50 (d : Nat) {z : zH} (hz : zRR z) (hc : 0 ≤ z 66 1 ∧ z 66 1 ≤ 30) (x dp : Int32) : cM (d + 1) 5 [xR 16 66, xI (zI 50), xI x, xI dp] (hI z) = rB50 d x dp (hI (spBeg z 50)) := by
  have hr : zR (z 66 1) := hz _ _
  have hr0 : zR 0 := zR_s (by omega)
  have bf := beg_f z 50
  rw [e_X0_run]
  unfold rB50
  simp only [zLit, hI_fs, lenX_s, zI_nI, bf.1, bf.2.1, bf.2.2]
  by_cases q : z 66 1 < 30
  · have e : hI (spBeg z 50) = xup (xup (hI z) 67 (zI (z 66 1)).toNatClampNeg (zI 50)) 66 1 (zI (z 66 1) + zI 1) := by
      unfold spBeg
      rw [if_pos q, zI_nat hr, zst hc.1, zI_add]
      simp only [hI_us]
    rw [if_pos (by rw [show ((30 : Nat) : Int) = 30 from rfl, zI_lt hr (zR_s (by omega))]; exact q), if_neg (by rw [zI_lt hr hr0, zI_nat hr]; omega), e]
    rfl
  · have e : spBeg z 50 = z := by unfold spBeg; rw [if_neg q]
    rw [if_neg (by rw [show ((30 : Nat) : Int) = 30 from rfl, zI_lt hr (zR_s (by omega))]; exact q), e]
    rfl
theorem m_body50 (d : Nat) {y : zH} (hy : zRR y) (hc : 0 ≤ y 100 40 ∧ y 100 40 ≤ 30) (x : Int32) : cM (d + 2) 256 [xR 28 100, xI (zI 4), xI (zI 2), xI x] (hI y) = mB50 (d + 1) x (hI (spBegM y 50)) := by
  have mb := fun d b => m_began d hy hc (b := b)
  rw [e_X12_body]
  unfold mB50
  simp only [zLit, zI_mul, zI_add, mb, xbd_n]
  rfl
def rB60 (d : Nat) (x dp : Int32) (h : xH) : xO := xbd (cM d 4 [xR 16 66, xI (zI 2), xI (zI 0), xI (x), xI dp] h) fun r h => some (r ^^^ h 66 4, h)
def mB60 (d : Nat) (x : Int32) (h : xH) : xO := xbd (cM d 255 [xR 28 100, xI (zI 2), xI (zI 0), xI (x)] h) fun r h => some (r ^^^ h 100 43, h)
theorem c_run60 (d : Nat) {z : zH} (hz : zRR z) (hc : 0 ≤ z 66 1 ∧ z 66 1 ≤ 30) (x dp : Int32) : cM (d + 1) 5 [xR 16 66, xI (zI 60), xI x, xI dp] (hI z) = rB60 d x dp (hI (spBeg z 60)) := by
  have hr : zR (z 66 1) := hz _ _
  have hr0 : zR 0 := zR_s (by omega)
  have bf := beg_f z 60
  rw [e_X0_run]
  unfold rB60
  simp only [zLit, hI_fs, lenX_s, zI_nI, bf.1, bf.2.1, bf.2.2]
  by_cases q : z 66 1 < 30
  · have e : hI (spBeg z 60) = xup (xup (hI z) 67 (zI (z 66 1)).toNatClampNeg (zI 60)) 66 1 (zI (z 66 1) + zI 1) := by
      unfold spBeg
      rw [if_pos q, zI_nat hr, zst hc.1, zI_add]
      simp only [hI_us]
    rw [if_pos (by rw [show ((30 : Nat) : Int) = 30 from rfl, zI_lt hr (zR_s (by omega))]; exact q), if_neg (by rw [zI_lt hr hr0, zI_nat hr]; omega), e]
    rfl
  · have e : spBeg z 60 = z := by unfold spBeg; rw [if_neg q]
    rw [if_neg (by rw [show ((30 : Nat) : Int) = 30 from rfl, zI_lt hr (zR_s (by omega))]; exact q), e]
    rfl
theorem m_body60 (d : Nat) {y : zH} (hy : zRR y) (hc : 0 ≤ y 100 40 ∧ y 100 40 ≤ 30) (x : Int32) : cM (d + 2) 256 [xR 28 100, xI (zI 5), xI (zI 0), xI x] (hI y) = mB60 (d + 1) x (hI (spBegM y 60)) := by
  have mb := fun d b => m_began d hy hc (b := b)
  rw [e_X12_body]
  unfold mB60
  simp only [zLit, zI_mul, zI_add, mb, xbd_n]
  rfl
def rB61 (d : Nat) (x dp : Int32) (h : xH) : xO := xbd (cM d 4 [xR 16 66, xI (zI 2), xI (zI 1), xI (x), xI dp] h) fun r h => xbd (cM d 4 [xR 16 66, xI (zI 2), xI (zI 0), xI (h 66 3), xI dp] h) fun s h => some (r + s, h)
def mB61 (d : Nat) (x : Int32) (h : xH) : xO := xbd (cM d 255 [xR 28 100, xI (zI 2), xI (zI 1), xI (x)] h) fun r h => xbd (cM d 255 [xR 28 100, xI (zI 2), xI (zI 0), xI (h 100 42)] h) fun s h => some (r + s, h)
theorem c_run61 (d : Nat) {z : zH} (hz : zRR z) (hc : 0 ≤ z 66 1 ∧ z 66 1 ≤ 30) (x dp : Int32) : cM (d + 1) 5 [xR 16 66, xI (zI 61), xI x, xI dp] (hI z) = rB61 d x dp (hI (spBeg z 61)) := by
  have hr : zR (z 66 1) := hz _ _
  have hr0 : zR 0 := zR_s (by omega)
  have bf := beg_f z 61
  rw [e_X0_run]
  unfold rB61
  simp only [zLit, hI_fs, lenX_s, zI_nI, bf.1, bf.2.1, bf.2.2]
  by_cases q : z 66 1 < 30
  · have e : hI (spBeg z 61) = xup (xup (hI z) 67 (zI (z 66 1)).toNatClampNeg (zI 61)) 66 1 (zI (z 66 1) + zI 1) := by
      unfold spBeg
      rw [if_pos q, zI_nat hr, zst hc.1, zI_add]
      simp only [hI_us]
    rw [if_pos (by rw [show ((30 : Nat) : Int) = 30 from rfl, zI_lt hr (zR_s (by omega))]; exact q), if_neg (by rw [zI_lt hr hr0, zI_nat hr]; omega), e]
    rfl
  · have e : spBeg z 61 = z := by unfold spBeg; rw [if_neg q]
    rw [if_neg (by rw [show ((30 : Nat) : Int) = 30 from rfl, zI_lt hr (zR_s (by omega))]; exact q), e]
    rfl
theorem m_body61 (d : Nat) {y : zH} (hy : zRR y) (hc : 0 ≤ y 100 40 ∧ y 100 40 ≤ 30) (x : Int32) : cM (d + 2) 256 [xR 28 100, xI (zI 5), xI (zI 1), xI x] (hI y) = mB61 (d + 1) x (hI (spBegM y 61)) := by
  have mb := fun d b => m_began d hy hc (b := b)
  rw [e_X12_body]
  unfold mB61
  simp only [zLit, zI_mul, zI_add, mb, xbd_n]
  rfl
def rB70 (d : Nat) (x dp : Int32) (h : xH) : xO := some (h 66 4 - x, h)
def mB70 (d : Nat) (x : Int32) (h : xH) : xO := some (h 100 43 - x, h)
theorem c_run70 (d : Nat) {z : zH} (hz : zRR z) (hc : 0 ≤ z 66 1 ∧ z 66 1 ≤ 30) (x dp : Int32) : cM (d + 1) 5 [xR 16 66, xI (zI 70), xI x, xI dp] (hI z) = rB70 d x dp (hI (spBeg z 70)) := by
  have hr : zR (z 66 1) := hz _ _
  have hr0 : zR 0 := zR_s (by omega)
  have bf := beg_f z 70
  rw [e_X0_run]
  unfold rB70
  simp only [zLit, hI_fs, lenX_s, zI_nI, bf.1, bf.2.1, bf.2.2]
  by_cases q : z 66 1 < 30
  · have e : hI (spBeg z 70) = xup (xup (hI z) 67 (zI (z 66 1)).toNatClampNeg (zI 70)) 66 1 (zI (z 66 1) + zI 1) := by
      unfold spBeg
      rw [if_pos q, zI_nat hr, zst hc.1, zI_add]
      simp only [hI_us]
    rw [if_pos (by rw [show ((30 : Nat) : Int) = 30 from rfl, zI_lt hr (zR_s (by omega))]; exact q), if_neg (by rw [zI_lt hr hr0, zI_nat hr]; omega), e]
    rfl
  · have e : spBeg z 70 = z := by unfold spBeg; rw [if_neg q]
    rw [if_neg (by rw [show ((30 : Nat) : Int) = 30 from rfl, zI_lt hr (zR_s (by omega))]; exact q), e]
    rfl
theorem m_body70 (d : Nat) {y : zH} (hy : zRR y) (hc : 0 ≤ y 100 40 ∧ y 100 40 ≤ 30) (x : Int32) : cM (d + 2) 256 [xR 28 100, xI (zI 6), xI (zI 0), xI x] (hI y) = mB70 (d + 1) x (hI (spBegM y 70)) := by
  have mb := fun d b => m_began d hy hc (b := b)
  rw [e_X12_body]
  unfold mB70
  simp only [zLit, zI_mul, zI_add, mb, xbd_n]
  rfl
def rB71 (d : Nat) (x dp : Int32) (h : xH) : xO := xbd (cM d 4 [xR 16 66, xI (h 66 2), xI (zI 0), xI (x), xI dp] h) fun r h => some (r + h 66 3, h)
def mB71 (d : Nat) (x : Int32) (h : xH) : xO := xbd (cM d 254 [xR 28 100, xI (zI 0), xI (x)] h) fun r h => some (r + h 100 42, h)
theorem c_run71 (d : Nat) {z : zH} (hz : zRR z) (hc : 0 ≤ z 66 1 ∧ z 66 1 ≤ 30) (x dp : Int32) : cM (d + 1) 5 [xR 16 66, xI (zI 71), xI x, xI dp] (hI z) = rB71 d x dp (hI (spBeg z 71)) := by
  have hr : zR (z 66 1) := hz _ _
  have hr0 : zR 0 := zR_s (by omega)
  have bf := beg_f z 71
  rw [e_X0_run]
  unfold rB71
  simp only [zLit, hI_fs, lenX_s, zI_nI, bf.1, bf.2.1, bf.2.2]
  by_cases q : z 66 1 < 30
  · have e : hI (spBeg z 71) = xup (xup (hI z) 67 (zI (z 66 1)).toNatClampNeg (zI 71)) 66 1 (zI (z 66 1) + zI 1) := by
      unfold spBeg
      rw [if_pos q, zI_nat hr, zst hc.1, zI_add]
      simp only [hI_us]
    rw [if_pos (by rw [show ((30 : Nat) : Int) = 30 from rfl, zI_lt hr (zR_s (by omega))]; exact q), if_neg (by rw [zI_lt hr hr0, zI_nat hr]; omega), e]
    rfl
  · have e : spBeg z 71 = z := by unfold spBeg; rw [if_neg q]
    rw [if_neg (by rw [show ((30 : Nat) : Int) = 30 from rfl, zI_lt hr (zR_s (by omega))]; exact q), e]
    rfl
theorem m_body71 (d : Nat) {y : zH} (hy : zRR y) (hc : 0 ≤ y 100 40 ∧ y 100 40 ≤ 30) (x : Int32) : cM (d + 2) 256 [xR 28 100, xI (zI 6), xI (zI 1), xI x] (hI y) = mB71 (d + 1) x (hI (spBegM y 71)) := by
  have mb := fun d b => m_began d hy hc (b := b)
  rw [e_X12_body]
  unfold mB71
  simp only [zLit, zI_mul, zI_add, mb, xbd_n]
  rfl
def rB72 (d : Nat) (x dp : Int32) (h : xH) : xO := some (x &&& h 66 4, h)
def mB72 (d : Nat) (x : Int32) (h : xH) : xO := some (x &&& h 100 43, h)
theorem c_run72 (d : Nat) {z : zH} (hz : zRR z) (hc : 0 ≤ z 66 1 ∧ z 66 1 ≤ 30) (x dp : Int32) : cM (d + 1) 5 [xR 16 66, xI (zI 72), xI x, xI dp] (hI z) = rB72 d x dp (hI (spBeg z 72)) := by
  have hr : zR (z 66 1) := hz _ _
  have hr0 : zR 0 := zR_s (by omega)
  have bf := beg_f z 72
  rw [e_X0_run]
  unfold rB72
  simp only [zLit, hI_fs, lenX_s, zI_nI, bf.1, bf.2.1, bf.2.2]
  by_cases q : z 66 1 < 30
  · have e : hI (spBeg z 72) = xup (xup (hI z) 67 (zI (z 66 1)).toNatClampNeg (zI 72)) 66 1 (zI (z 66 1) + zI 1) := by
      unfold spBeg
      rw [if_pos q, zI_nat hr, zst hc.1, zI_add]
      simp only [hI_us]
    rw [if_pos (by rw [show ((30 : Nat) : Int) = 30 from rfl, zI_lt hr (zR_s (by omega))]; exact q), if_neg (by rw [zI_lt hr hr0, zI_nat hr]; omega), e]
    rfl
  · have e : spBeg z 72 = z := by unfold spBeg; rw [if_neg q]
    rw [if_neg (by rw [show ((30 : Nat) : Int) = 30 from rfl, zI_lt hr (zR_s (by omega))]; exact q), e]
    rfl
theorem m_body72 (d : Nat) {y : zH} (hy : zRR y) (hc : 0 ≤ y 100 40 ∧ y 100 40 ≤ 30) (x : Int32) : cM (d + 2) 256 [xR 28 100, xI (zI 6), xI (zI 2), xI x] (hI y) = mB72 (d + 1) x (hI (spBegM y 72)) := by
  have mb := fun d b => m_began d hy hc (b := b)
  rw [e_X12_body]
  unfold mB72
  simp only [zLit, zI_mul, zI_add, mb, xbd_n]
  rfl
def rB73 (d : Nat) (x dp : Int32) (h : xH) : xO := xbd (cM d 4 [xR 16 66, xI (h 66 2), xI (zI 1), xI (x), xI dp] h) fun r h => xbd (cM d 4 [xR 16 66, xI (h 66 2), xI (zI 2), xI (x), xI dp] h) fun s h => some (r - s, h)
def mB73 (d : Nat) (x : Int32) (h : xH) : xO := xbd (cM d 254 [xR 28 100, xI (zI 1), xI (x)] h) fun r h => xbd (cM d 254 [xR 28 100, xI (zI 2), xI (x)] h) fun s h => some (r - s, h)
theorem c_run73 (d : Nat) {z : zH} (hz : zRR z) (hc : 0 ≤ z 66 1 ∧ z 66 1 ≤ 30) (x dp : Int32) : cM (d + 1) 5 [xR 16 66, xI (zI 73), xI x, xI dp] (hI z) = rB73 d x dp (hI (spBeg z 73)) := by
  have hr : zR (z 66 1) := hz _ _
  have hr0 : zR 0 := zR_s (by omega)
  have bf := beg_f z 73
  rw [e_X0_run]
  unfold rB73
  simp only [zLit, hI_fs, lenX_s, zI_nI, bf.1, bf.2.1, bf.2.2]
  by_cases q : z 66 1 < 30
  · have e : hI (spBeg z 73) = xup (xup (hI z) 67 (zI (z 66 1)).toNatClampNeg (zI 73)) 66 1 (zI (z 66 1) + zI 1) := by
      unfold spBeg
      rw [if_pos q, zI_nat hr, zst hc.1, zI_add]
      simp only [hI_us]
    rw [if_pos (by rw [show ((30 : Nat) : Int) = 30 from rfl, zI_lt hr (zR_s (by omega))]; exact q), if_neg (by rw [zI_lt hr hr0, zI_nat hr]; omega), e]
    rfl
  · have e : spBeg z 73 = z := by unfold spBeg; rw [if_neg q]
    rw [if_neg (by rw [show ((30 : Nat) : Int) = 30 from rfl, zI_lt hr (zR_s (by omega))]; exact q), e]
    rfl
theorem m_body73 (d : Nat) {y : zH} (hy : zRR y) (hc : 0 ≤ y 100 40 ∧ y 100 40 ≤ 30) (x : Int32) : cM (d + 2) 256 [xR 28 100, xI (zI 6), xI (zI 3), xI x] (hI y) = mB73 (d + 1) x (hI (spBegM y 73)) := by
  have mb := fun d b => m_began d hy hc (b := b)
  rw [e_X12_body]
  unfold mB73
  simp only [zLit, zI_mul, zI_add, mb, xbd_n]
  rfl
