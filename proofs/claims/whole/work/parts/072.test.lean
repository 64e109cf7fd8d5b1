theorem q1 (z : zH) {c : Int} (l1 : 1 ≤ z 101 0 ∧ z 101 0 ≤ 8) (hc : 0 ≤ c ∧ c < 64) : zI c - zI c / zI (z 101 0) * zI (z 101 0) = zI (c % z 101 0) := by
  simp (disch := (first | assumption | (simp only [zR]; omega) | omega)) only [zI_rem]
theorem q2 (z : zH) {c : Int} (l1 : 1 ≤ z 101 0 ∧ z 101 0 ≤ 8) (hc : 0 ≤ c ∧ c < 64) : zI c - zI c / (hI z 101 (0 : Int32).toNatClampNeg) * (hI z 101 (0 : Int32).toNatClampNeg) = zI (c % z 101 0) := by
  simp (disch := (first | assumption | (simp only [zR]; omega) | omega)) only [zLit, hI_fs, zI_nat, Int.toNat_zero, zI_rem]
theorem q3 (z : zH) {c : Int} (l1 : 1 ≤ z 101 0 ∧ z 101 0 ≤ 8) (hc : 0 ≤ c ∧ c < 64) : (hI z 101 (0 : Int32).toNatClampNeg) = zI (z 101 0) := by
  simp (disch := (first | assumption | (simp only [zR]; omega) | omega)) only [zLit, hI_fs, zI_nat, Int.toNat_zero]
theorem q4 (z : zH) {c : Int} (l1 : 1 ≤ z 101 0 ∧ z 101 0 ≤ 8) (hc : 0 ≤ c ∧ c < 64) : (hI z 101 (0 : Int32).toNatClampNeg) = zI (z 101 0) := by
  simp (disch := (first | assumption | (simp only [zR]; omega) | omega)) only [zLit, hI_fs, zI_nat, zld, Int.reduceNeg, Int.reduceToNat, Int.toNat_zero, Int.toNat_one]
