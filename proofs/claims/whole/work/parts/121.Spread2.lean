/-! PURE, part 51: spread from a place; so many places -/
theorem nodup_len : ∀ (n : Nat) (L : List Int), L.Nodup → (∀ q, q ∈ L → 0 ≤ q ∧ q < (n : Int)) → L.length ≤ n := by
  intro n
  induction n with
  | zero =>
    intro L _ h
    cases L with
    | nil => exact Nat.le_refl _
    | cons a L => have := h a (List.mem_cons_self ..); omega
  | succ n ih =>
    intro L hn h
    by_cases q : (n : Int) ∈ L
    · have e := List.length_erase_of_mem q
      have w := ih (L.erase (n : Int)) (hn.erase _) (fun x hx => by
        have y := (List.Nodup.mem_erase_iff hn).mp hx
        have z := h x y.2
        have := y.1
        omega)
      omega
    · have w := ih L hn (fun x hx => by
        have z := h x hx
        have : x ≠ (n : Int) := fun e => q (e ▸ hx)
        omega)
      omega
theorem c_spread (d : Nat) {v : Int → Int} (hL : LandI v) {c0 : crft} {p H : Int} (hp : 0 ≤ p ∧ p / 12 < v 0 * v 1) (hH : 0 ≤ H ∧ H ≤ 99) (hg : v (24 + p / 12) < H) (hr : Rch v c0 (unp p H)) {z : zH} {L : Int → List Int} (hz : zRR z) (hR : LandR z v) (hS : SR v c0 z L H) : xw (cM (d + 4) 47 [xR 22 50, xR 21 2, xI (zI p), xI (zI H)] (hI z)) (fun _ z' => ∃ L', SR v c0 z' L' H ∧ (∀ q, z 51 q ≤ z' 51 q) ∧ (∀ q, H ≤ z' 51 q → z' 51 q = z 51 q) ∧ (∀ K, H ≤ K → L' K = L K) ∧ (∀ a, mayC v (unp p H) a → (spAct v (unp p H) a).2.2.2 ≤ z' 51 (plc (spAct v (unp p H) a))) ∧ fr [51, 52, 53, 54] z z') := by
  have har := area hL.1 hL.2.1
  have pr : zR p := zR_s (by omega)
  have r12 : zR 12 := zR_s (by omega)
  have r3 : zR 3 := zR_s (by omega)
  have r4 : zR 4 := zR_s (by omega)
  have n12 : ¬ zI 12 = zI 0 := by decide
  have n3 : ¬ zI 3 = zI 0 := by decide
  have n4 : ¬ zI 4 = zI 0 := by decide
  have p3 : zR (p / 3) := zR_s (by omega)
  have e1 : zI p / zI 12 = zI (p / 12) := zI_div pr hp.1 (by omega) r12
  have e2 : zI p / zI 3 = zI (p / 3) := zI_div pr hp.1 (by omega) r3
  have e3 : zI (p / 3) - zI (p / 3) / zI 4 * zI 4 = zI (p / 3 % 4) := zI_rem p3 (by omega) (by omega) r4
  have e4 : zI p - zI (p / 3) * zI 3 = zI (p % 3) := by rw [← e2]; exact zI_rem pr hp.1 (by omega) r3
  rw [e_X6_spread, show xF = 999999 + 1 from rfl, l_X6_spread_0]
  simp only [zLit, if_neg n12, if_neg n3, if_neg n4]
  rw [e1, e2, e3, e4]
  refine xw_m (c_spread_l d hL hp hH hg hr 9 0 (by omega) (by omega) z L hz hR hS 999999 (by omega)) ?_
  intro r z1 _ _ ⟨L', s1, s2, s3, s4, s5, s6⟩
  exact ⟨L', s1, s2, s3, s4, fun a hm => s5 a hm.1.1 hm, s6⟩
