/-! THE FIRST HEAP, part 2: what holds of it -/
def nZ : zH := fun o k => (n0H o k.toNat).toInt
theorem nZ_h : hI nZ = n0H := by
  funext o k
  show zI ((n0H o ((k : Int).toNat)).toInt) = n0H o k
  rw [zI_of, Int.toNat_natCast]
theorem nZ_R : zRR nZ := fun o k => ⟨Int32.le_toInt _, Int32.toInt_lt _⟩
theorem n_all {P : Int → Prop} (N : Nat) (h : ∀ n : Nat, n < N → P n) : ∀ c : Int, 0 ≤ c → c < (N : Int) → P c := by
  intro c h1 h2
  obtain ⟨n, rfl⟩ := Int.eq_ofNat_of_zero_le h1
  exact h n (by omega)
theorem n_none {v : Int} {P : Int → Prop} (hv : v = 0) : ∀ c : Int, 0 ≤ c → c < v → P c := fun c h1 h2 => absurd h2 (by omega)
theorem nZ_land : PLand 2 nZ (nZ 101) := by
  refine ⟨⟨by decide +kernel, by decide +kernel, n_all 64 (by decide +kernel), n_all 64 (by decide +kernel), n_all 9 (by decide +kernel)⟩, by decide +kernel, by decide +kernel, n_all 64 (by decide +kernel), n_all 64 (by decide +kernel), n_all 3 (by decide +kernel), by decide +kernel, by decide +kernel, n_all 4 (by decide +kernel)⟩
theorem nZ_craft : PCraft 6 nZ (nZ 101) := by
  refine ⟨by decide +kernel, by decide +kernel, by decide +kernel, by decide +kernel, by decide +kernel, ?_, by decide +kernel, by decide +kernel⟩
  unfold okC
  exact ⟨by decide +kernel, by decide +kernel, by decide +kernel, by decide +kernel⟩
theorem n_rows {o : Nat} {m w c b : Int} (N : Nat) (hN : m * w = N) (h0 : nZ o 0 = m) (h1 : nZ o 1 = w) (h3 : nZ o 3 = 0) (hc : nZ 101 c = 0) (hm : 0 ≤ m) (h : ∀ n : Nat, n < N → nZ (o + 1) n = nZ 101 (b + n)) : RRows o m w c b nZ (nZ 101) :=
  ⟨h0, h1, by rw [h3, hc], by rw [hc]; omega, by rw [hN]; exact n_all N h⟩
theorem nZ_world : PWorld 1 nZ (nZ 101) := by
  refine ⟨nZ_land, nZ_craft, ⟨n_rows 40 (by decide) (by decide +kernel) (by decide +kernel) (by decide +kernel) (by decide +kernel) (by decide) (by decide +kernel), n_none (by decide +kernel)⟩, ?_, ⟨n_rows 20 (by decide) (by decide +kernel) (by decide +kernel) (by decide +kernel) (by decide +kernel) (by decide) (by decide +kernel), n_none (by decide +kernel)⟩, ?_, ⟨n_rows 21 (by decide) (by decide +kernel) (by decide +kernel) (by decide +kernel) (by decide +kernel) (by decide) (by decide +kernel), n_none (by decide +kernel)⟩, ⟨n_rows 8 (by decide) (by decide +kernel) (by decide +kernel) (by decide +kernel) (by decide +kernel) (by decide) (by decide +kernel), n_none (by decide +kernel)⟩, ⟨n_rows 60 (by decide) (by decide +kernel) (by decide +kernel) (by decide +kernel) (by decide +kernel) (by decide) (by decide +kernel), n_none (by decide +kernel)⟩⟩
  · refine ⟨⟨by decide +kernel, by decide +kernel, by decide +kernel, by decide +kernel⟩, n_all 4 (fun p hp => ⟨?_, n_all 20 ?_⟩), n_none (by decide +kernel)⟩
    · revert p; decide +kernel
    · revert p; decide +kernel
  · exact ⟨by decide +kernel, by decide +kernel, n_none (by decide +kernel)⟩
theorem nZ_shelf : ∀ n : Nat, n < 4 → nZ 71 (3 * (n : Int)) = 3 ∧ nZ 120 (n : Int) = 0 := by decide +kernel
theorem nZ_sheet : ∀ n : Nat, n < 4 → nZ (73 + 2 * (n : Int).toNat) 0 = nZ 117 n ∧ nZ (73 + 2 * (n : Int).toNat) 1 = nZ 118 n ∧ (-1 ≤ nZ 117 n ∧ nZ 117 n ≤ 4) ∧ (0 ≤ nZ 118 n ∧ nZ 118 n ≤ 64) ∧ (nZ 117 n = -1 → nZ 118 n = 0) ∧ ∀ i : Nat, i < 64 → nZ (74 + 2 * (n : Int).toNat) i = nZ 119 (64 * n + i) := by decide +kernel
theorem nZ_Inv : Inv nZ := by
  refine ⟨nZ_R, nZ_world, ⟨by decide +kernel, by decide +kernel, Or.inl (by decide +kernel)⟩, ⟨by decide +kernel, by decide +kernel, n_none (by decide +kernel)⟩, ⟨by decide +kernel, by decide +kernel, by decide +kernel, n_none (by decide +kernel)⟩, n_all 4 (fun n hn => ?_), ⟨by decide +kernel, n_all 4 (fun n hn => Or.inl (nZ_shelf n hn))⟩, ⟨by decide +kernel, by decide +kernel, n_none (by decide +kernel)⟩⟩
  obtain ⟨h1, h2, h3, h4, h5, h6⟩ := nZ_sheet n hn
  exact ⟨h1, h2, h3, h4, h5, n_all 64 h6⟩
