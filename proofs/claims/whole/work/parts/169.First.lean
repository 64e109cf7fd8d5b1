/-! THE FIRST HEAP: what the constructors leave, as the pure machine's heap -/
def n0L : List (List Int32) := [[], [], [8, 8], [], [], [], [0, 1, 1, 60, 0], [8, 5], [], [4, 21], [], [5, 4], [], [], [], [], [], [7, 3], [], [8, 1], [], [20, 3], [], [], [8, 8], [], [], [], [0, 1, 1, 60, 0], [8, 5], [], [4, 21], [], [5, 4], [], [], [], [], [], [7, 3], [], [8, 1], [], [20, 3], [], [], [0, 1, 1, 60, 0], [30, 2], [], [0, 1, 1, 60, 0], [], [], [], [], [], [], [], [], [], [], [], [], [], [], [], [], [], [], [30, 2], [], [zI 4, zI 3, 0, zI 4], [], [], [-1], [], [-1], [], [-1], [], [-1], [], [], [], [], [], [], [], [], [], [], [], [], [], [], [], [], [], [], [], [], [], [], [], [], [], [], [], [], [], [], [], [], [], [], [], [], [], [], [], [], [], [], [], []]
def n0H : xH := fun o => if o = 5 then (upd (upd (upd (upd (upd (upd (upd (upd (upd (fun _ => 0) ((0 : Int32)).toNatClampNeg (3 : Int32)) ((1 : Int32)).toNatClampNeg (2 : Int32)) ((2 : Int32)).toNatClampNeg (4 : Int32)) ((3 : Int32)).toNatClampNeg (2 : Int32)) ((4 : Int32)).toNatClampNeg (1 : Int32)) ((5 : Int32)).toNatClampNeg (0 : Int32)) ((6 : Int32)).toNatClampNeg (0 : Int32)) ((7 : Int32)).toNatClampNeg (0 : Int32)) ((8 : Int32)).toNatClampNeg (0 : Int32)) else if o = 27 then (upd (upd (upd (upd (upd (upd (upd (upd (upd (fun _ => 0) ((0 : Int32)).toNatClampNeg (3 : Int32)) ((1 : Int32)).toNatClampNeg (2 : Int32)) ((2 : Int32)).toNatClampNeg (4 : Int32)) ((3 : Int32)).toNatClampNeg (2 : Int32)) ((4 : Int32)).toNatClampNeg (1 : Int32)) ((5 : Int32)).toNatClampNeg (0 : Int32)) ((6 : Int32)).toNatClampNeg (0 : Int32)) ((7 : Int32)).toNatClampNeg (0 : Int32)) ((8 : Int32)).toNatClampNeg (0 : Int32)) else if o = 71 then hI nZ4 71 else if o = 101 then (upd (upd (upd (upd (upd (upd (upd (upd (upd (upd (fun _ => 0) ((0 : Int32)).toNatClampNeg (8 : Int32)) ((1 : Int32)).toNatClampNeg (8 : Int32)) ((3 : Int32)).toNatClampNeg (1 : Int32)) ((4 : Int32)).toNatClampNeg (1 : Int32)) ((5 : Int32)).toNatClampNeg (60 : Int32)) ((15 : Int32)).toNatClampNeg (3 : Int32)) ((16 : Int32)).toNatClampNeg (2 : Int32)) ((17 : Int32)).toNatClampNeg (4 : Int32)) ((18 : Int32)).toNatClampNeg (2 : Int32)) ((19 : Int32)).toNatClampNeg (1 : Int32)) else if o = 117 then (upd (upd (upd (upd (fun _ => 0) ((0 : Int32)).toNatClampNeg (-1 : Int32)) ((1 : Int32)).toNatClampNeg (-1 : Int32)) ((2 : Int32)).toNatClampNeg (-1 : Int32)) ((3 : Int32)).toNatClampNeg (-1 : Int32)) else fun k => xnd 0 (xnd [] n0L o) k
theorem xwd_app (G : xG) (lo n k : Nat) (h : xH) : xwd G lo (n + k) h = xwd G lo n h ++ xwd G (lo + n) k h := by
  unfold xwd
  rw [List.range_add, List.map_append, List.map_map]
  congr 1
  apply List.map_congr_left
  intro i _
  simp only [Function.comp, Nat.add_assoc]
theorem n_b1 (G : xG) : BX10 (gcl G) (fun z => gad G (1 + z)) = xwd G 1 22 n0H := rfl
theorem n_b23 (G : xG) : BX10 (gcl G) (fun z => gad G (23 + z)) = xwd G 23 22 n0H := rfl
theorem n_b45 (G : xG) : BX3 (gcl G) (fun z => gad G (45 + z)) = xwd G 45 4 n0H := rfl
theorem n_b49 (G : xG) : BX2 (gcl G) (fun z => gad G (49 + z)) = xwd G 49 1 n0H := rfl
theorem n_b50 (G : xG) : BX6 (gcl G) (fun z => gad G (50 + z)) = xwd G 50 5 n0H := rfl
theorem n_b55 (G : xG) : BX9 (gcl G) (fun z => gad G (55 + z)) = xwd G 55 9 n0H := rfl
theorem n_b64 (G : xG) : BX1 (gcl G) (fun z => gad G (64 + z)) = xwd G 64 2 n0H := rfl
theorem n_b66 (G : xG) : BX0 (gcl G) (fun z => gad G (66 + z)) = xwd G 66 2 n0H := rfl
theorem n_b68 (G : xG) : BX7 (gcl G) (30 : Int32) (2 : Int32) 60 (fun z => gad G (68 + z)) = xwd G 68 2 n0H := rfl
theorem n_b73 (G : xG) : BX8 (gcl G) (fun z => gad G (73 + z)) = xwd G 73 2 n0H := rfl
theorem n_b75 (G : xG) : BX8 (gcl G) (fun z => gad G (75 + z)) = xwd G 75 2 n0H := rfl
theorem n_b77 (G : xG) : BX8 (gcl G) (fun z => gad G (77 + z)) = xwd G 77 2 n0H := rfl
theorem n_b79 (G : xG) : BX8 (gcl G) (fun z => gad G (79 + z)) = xwd G 79 2 n0H := rfl
theorem n_bp (G : xG) : BP11 (gcl G) (gad G) = xwd G 1 69 n0H := by
  have a23 : xwd G 1 44 n0H = xwd G 1 22 n0H ++ xwd G 23 22 n0H := xwd_app G 1 22 22 n0H
  have a45 : xwd G 1 48 n0H = xwd G 1 44 n0H ++ xwd G 45 4 n0H := xwd_app G 1 44 4 n0H
  have a49 : xwd G 1 49 n0H = xwd G 1 48 n0H ++ xwd G 49 1 n0H := xwd_app G 1 48 1 n0H
  have a50 : xwd G 1 54 n0H = xwd G 1 49 n0H ++ xwd G 50 5 n0H := xwd_app G 1 49 5 n0H
  have a55 : xwd G 1 63 n0H = xwd G 1 54 n0H ++ xwd G 55 9 n0H := xwd_app G 1 54 9 n0H
  have a64 : xwd G 1 65 n0H = xwd G 1 63 n0H ++ xwd G 64 2 n0H := xwd_app G 1 63 2 n0H
  have a66 : xwd G 1 67 n0H = xwd G 1 65 n0H ++ xwd G 66 2 n0H := xwd_app G 1 65 2 n0H
  have a68 : xwd G 1 69 n0H = xwd G 1 67 n0H ++ xwd G 68 2 n0H := xwd_app G 1 67 2 n0H
  unfold BP11
  rw [n_b1, n_b23, n_b45, n_b49, n_b50, n_b55, n_b64, n_b66, n_b68, List.nil_append, ← a23, ← a45, ← a49, ← a50, ← a55, ← a64, ← a66, ← a68]
theorem n_bs (G : xG) : ((([] ++ BX8 (gcl G) (fun z => gad G (73 + z))) ++ BX8 (gcl G) (fun z => gad G (75 + z))) ++ BX8 (gcl G) (fun z => gad G (77 + z))) ++ BX8 (gcl G) (fun z => gad G (79 + z)) = xwd G 73 8 n0H := by
  have a1 : xwd G 73 4 n0H = xwd G 73 2 n0H ++ xwd G 75 2 n0H := xwd_app G 73 2 2 n0H
  have a2 : xwd G 73 6 n0H = xwd G 73 4 n0H ++ xwd G 77 2 n0H := xwd_app G 73 4 2 n0H
  have a3 : xwd G 73 8 n0H = xwd G 73 6 n0H ++ xwd G 79 2 n0H := xwd_app G 73 6 2 n0H
  rw [n_b73, n_b75, n_b77, n_b79, List.nil_append, ← a1, ← a2, ← a3]
theorem n_fixP {D : va_G} {X Y : va_W} {q : Nat} {e e' : va_E} {H : Heap} (h : va_at D clX (q, e) H → va_at D clX (q, e') H) (hP : va_P D clX (X ++ (q, e) :: Y) H) : va_P D clX (X ++ (q, e') :: Y) H := by
  refine va_P.app (n_firstP hP) ?_
  intro k z hz
  cases k with
  | zero =>
    cases hz
    exact h (n_lastP hP 0 _ rfl)
  | succ k => exact n_lastP hP (k + 1) z hz
theorem n_fixD {A : Nat → Prop} {X Y : va_W} {q : Nat} {e e' : va_E} (hD : va_D A (X ++ (q, e) :: Y)) : va_D A (X ++ (q, e') :: Y) := by
  have key : ∀ (k : Nat) (z : Nat × va_E), (X ++ (q, e') :: Y)[k]? = some z → ∃ z', (X ++ (q, e) :: Y)[k]? = some z' ∧ z'.1 = z.1 := by
    intro k z hz
    by_cases hk : k < X.length
    · rw [List.getElem?_append_left hk] at hz ⊢
      exact ⟨z, hz, rfl⟩
    · rw [List.getElem?_append_right (by omega)] at hz ⊢
      cases hj : k - X.length with
      | zero =>
        rw [hj] at hz
        cases hz
        exact ⟨_, rfl, rfl⟩
      | succ j =>
        rw [hj] at hz
        exact ⟨z, hz, rfl⟩
  refine ⟨fun i j p r hp hr hpr => ?_, fun k z hz => ?_⟩
  · obtain ⟨p', h1, h2⟩ := key i p hp
    obtain ⟨r', h3, h4⟩ := key j r hr
    exact hD.1 i j p' r' h1 h3 (by rw [h2, h4]; exact hpr)
  · obtain ⟨z', h1, h2⟩ := key k z hz
    rw [← h2]
    exact hD.2 k z' h1
theorem n_u4 (G : xG) : ∀ i : Nat, i < 4 → (va_up (va_up (va_up (va_up (fun _ => none) (0 : Int32).toNatClampNeg (some (gad G 73))) (1 : Int32).toNatClampNeg (some (gad G 75))) (2 : Int32).toNatClampNeg (some (gad G 77))) (3 : Int32).toNatClampNeg (some (gad G 79))) i = (fun i => some (gad G (72 + 1 + 2 * i))) i := by
  intro i hi
  rcases (show i = 0 ∨ i = 1 ∨ i = 2 ∨ i = 3 by omega) with z | z | z | z <;> subst z <;> rfl
theorem n_w11 (G : xG) : ∃ X Y : va_W, ∃ e e' : va_E, BX11 (gcl G) (gcl G 6) (gad G) = X ++ (gad G 72, e) :: Y ∧ xwd G 0 81 n0H = X ++ (gad G 72, e') :: Y ∧ ∀ H, va_at (gD G) clX (gad G 72, e) H → va_at (gD G) clX (gad G 72, e') H := by
  refine ⟨xwd G 0 72 n0H, xwd G 73 8 n0H, _, xen G n0H 72, ?_, ?_, fun H h => n_cellq (n_u4 G) h⟩
  · have a1 : xwd G 0 72 n0H = xwd G 0 70 n0H ++ xwd G 70 2 n0H := xwd_app G 0 70 2 n0H
    have a2 : xwd G 0 70 n0H = xwd G 0 1 n0H ++ xwd G 1 69 n0H := xwd_app G 0 1 69 n0H
    have a3 : xwd G 0 1 n0H = [(gad G 0, .inr (11, [.ref (gad G 1), .ref (gad G 23), .int (0 : Int32), .ref (gad G 45), .ref (gad G 49), .ref (gad G 50), .ref (gad G 55), .ref (gad G 64), .ref (gad G 66), .ref (gad G 68), .ref (gad G 70), .ref (gad G 72)]))] := rfl
    have a4 : xwd G 70 2 n0H = [(gad G 70, .inr (7, [.int (zI 4), .int (zI 3), .ref (gad G 71), .int (zI 4)])), (gad G 71, .inl (gcl G 1, (12, .inl (hI nZ4 71))))] := rfl
    rw [a1, a2, a3, a4]
    unfold BX11
    rw [n_bs, n_bp]
    rfl
  · have a1 : xwd G 0 81 n0H = xwd G 0 72 n0H ++ xwd G 72 9 n0H := xwd_app G 0 72 9 n0H
    have a2 : xwd G 72 9 n0H = xwd G 72 1 n0H ++ xwd G 73 8 n0H := xwd_app G 72 1 8 n0H
    rw [a1, a2]
    rfl
