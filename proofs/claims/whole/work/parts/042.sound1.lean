/-! SOUNDNESS OF THE PURE MACHINE, part 1: words, addresses, worlds -/
def xTs : List Cond := lw_tbl.filter goodWord
theorem xTs_good {L : List Cond} (h : ∀ w ∈ L, w ∈ xTs) : GoodIn xTs L := fun w hw => ⟨h w hw, good_of_word (List.mem_filter.mp (h w hw)).2⟩
def clX : List vw_C := [(RX0, TX0, 6), (RX1, TX1, 1), (RX2, TX2, 5), (RX3, TX3, 3), (RX4, TX4, 4), (RX5, TX5, 5), (RX6, TX6, 4), (RX7, TX7, 4), (RX8, TX8, 3), (RX9, TX9, 11), (RX10, TX10, 9), (RX11, TX11, 12), (RX12, TX12, 45)]
/-- the tables; addresses: of what may change, of constant arrays, of texts, of their bytes; the value that nobody looks at; the classes of arrays by their tags -/
abbrev xG : Type := va_G × (Nat → Nat) × (Nat → Nat) × (Nat → Nat) × (Nat → Nat) × Value × (Nat → ClassId)
abbrev gD (G : xG) : va_G := G.1
abbrev gad (G : xG) : Nat → Nat := G.2.1
abbrev gac (G : xG) : Nat → Nat := G.2.2.1
abbrev gas (G : xG) : Nat → Nat := G.2.2.2.1
abbrev gav (G : xG) : Nat → Nat := G.2.2.2.2.1
abbrev gov (G : xG) : Value := G.2.2.2.2.2.1
abbrev gcl (G : xG) : Nat → ClassId := G.2.2.2.2.2.2
def xadr (G : xG) (t o : Nat) : Nat := if t = 4 then gac G o else if t = 5 then gas G o else if t = 9 then gav G o else gad G o
def xcv (G : xG) : xV → Value
  | .inl x => .int x
  | .inr (.inl x) => .long x
  | .inr (.inr (t, o)) => if t = 0 then gov G else .ref (xadr G t o)
theorem xcv_R {G : xG} {t o : Nat} (h : t ≠ 0) : xcv G (xR t o) = .ref (xadr G t o) := if_neg h
def xfl (G : xG) (h : xH) (o : Nat) : Nat → List (Nat × Nat × Nat) → List Value
  | _, [] => []
  | k, (0, _, _) :: l => .int (h o k) :: xfl G h o (k + 1) l
  | k, (_ + 1, _, d) :: l => .ref (gad G (o + d)) :: xfl G h o (k + 1) l
def xen (G : xG) (h : xH) (o : Nat) : va_E :=
  if kdX o = 1 then .inl (gcl G 1, (lenX o, .inl (h o)))
  else if kdX o = 2 then .inl (gcl G 2, (lenX o, .inl (h o)))
  else if kdX o = 3 then .inl (gcl G 3, (lenX o, .inl (h o)))
  else if kdX o = 6 then .inl (gcl G 6, (lenX o, .inr (.inr (.inr (.inr (fun i => some (gad G (o + 1 + 2 * i))))))))
  else if kdX o = 7 then .inl (gcl G 7, (lenX o, .inr (.inr (.inr (.inr (fun i => some (gas G (scX o i))))))))
  else .inr (kdX o - 16, xfl G h o 0 (fsX (kdX o)))
def xwd (G : xG) (lo n : Nat) (h : xH) : va_W := (List.range n).map (fun i => (gad G (lo + i), xen G h (lo + i)))
def xty : Nat → FieldType
  | 1 => .int
  | 2 => .byte
  | 3 => .boolean
  | 6 => .object "DeadStick$Sheet"
  | _ => .object "java/lang/String"
def xtys (G : xG) (tg : List Nat) : List (ClassId × FieldType) := tg.map (fun t => (gcl G t, xty t))
def xA (G : xG) (lo n : Nat) : Nat → Prop := fun q => ∃ i, i < n ∧ q = gad G (lo + i)
theorem xtys_at {G : xG} {tg : List Nat} {t : Nat} (h : t ∈ tg) : ∃ t0 : Nat, (xtys G tg)[t0]? = some (gcl G t, xty t) :=
  List.getElem?_of_mem (List.mem_map.mpr ⟨t, h, rfl⟩)
theorem xwd_at (G : xG) {lo n o : Nat} (h : xH) (h1 : lo ≤ o) (h2 : o < lo + n) : (xwd G lo n h)[o - lo]? = some (gad G o, xen G h o) := by
  have e : lo + (o - lo) = o := by omega
  simp [xwd, List.getElem?_map, List.getElem?_range (show o - lo < n by omega), e]
theorem xup_o {h : xH} {o k p : Nat} {v : Int32} (hp : p ≠ o) : (xup h o k v) p = h p := by
  funext q
  simp [xup, hp]
theorem xcp_o {h : xH} {a i b j n p : Nat} (hp : p ≠ b) : (xcp h a i b j n) p = h p := by
  funext q
  simp [xcp, hp]
theorem xfl_c {G : xG} {h h' : xH} {o : Nat} (e : h o = h' o) : ∀ (l : List (Nat × Nat × Nat)) (k : Nat), xfl G h o k l = xfl G h' o k l := by
  intro l
  induction l with
  | nil => intro k; rfl
  | cons a l ih =>
    intro k
    obtain ⟨x, y, z⟩ := a
    cases x with
    | zero => simp only [xfl, e, ih]
    | succ x => simp only [xfl, ih]
theorem xen_c {G : xG} {h h' : xH} {o : Nat} (e : h o = h' o) : xen G h o = xen G h' o := by
  unfold xen
  rw [e, xfl_c e]
/-- a world with one cell changed -/
theorem xwd_set (G : xG) {lo n o : Nat} {h h' : xH} (h1 : lo ≤ o) (h2 : o < lo + n) (hk : ∀ p, p ≠ o → h' p = h p) : (xwd G lo n h).set (o - lo) (gad G o, xen G h' o) = xwd G lo n h' := by
  refine List.ext_getElem? fun i => ?_
  rw [List.getElem?_set]
  by_cases hi : o - lo = i
  · subst hi
    rw [if_pos rfl, if_pos (by simp [xwd]; omega), xwd_at G h' h1 h2]
  · rw [if_neg hi]
    by_cases hn : i < n
    · simp only [xwd, List.getElem?_map, List.getElem?_range hn, Option.map_some]
      rw [xen_c (hk (lo + i) (by omega))]
    · simp [xwd, hn]
theorem xfl_at {G : xG} {h : xH} {o : Nat} : ∀ (l : List (Nat × Nat × Nat)) (k j : Nat), (xfl G h o k l)[j]? = (l[j]?).map (fun q => match q with
    | (0, _, _) => .int (h o (k + j))
    | (_ + 1, _, d) => .ref (gad G (o + d))) := by
  intro l
  induction l with
  | nil => intro k j; simp [xfl]
  | cons a l ih =>
    intro k j
    obtain ⟨x, y, z⟩ := a
    cases x with
    | zero =>
      cases j with
      | zero => simp [xfl]
      | succ j =>
        simp only [xfl, List.getElem?_cons_succ, ih]
        rw [show k + 1 + j = k + (j + 1) by omega]
    | succ x =>
      cases j with
      | zero => simp [xfl]
      | succ j =>
        simp only [xfl, List.getElem?_cons_succ, ih]
        rw [show k + 1 + j = k + (j + 1) by omega]
theorem xfl_len {G : xG} {h : xH} {o : Nat} : ∀ (l : List (Nat × Nat × Nat)) (k : Nat), (xfl G h o k l).length = l.length := by
  intro l
  induction l with
  | nil => intro k; rfl
  | cons a l ih =>
    intro k
    obtain ⟨x, y, z⟩ := a
    cases x <;> simp [xfl, ih]
/-- an int field changed -/
theorem xfl_set {G : xG} {h : xH} {o b : Nat} {v : Int32} : ∀ (l : List (Nat × Nat × Nat)) (k : Nat), k ≤ b → (∀ q, l[b - k]? = some q → q.1 = 0) → xfl G (xup h o b v) o k l = (xfl G h o k l).set (b - k) (.int v) := by
  intro l
  induction l with
  | nil => intro k _ _; rfl
  | cons a l ih =>
    intro k hk hq
    by_cases e : k = b
    · subst e
      obtain ⟨x, y, z⟩ := a
      have hx : x = 0 := hq (x, y, z) (by simp)
      subst hx
      rw [Nat.sub_self]
      simp only [xfl, List.set_cons_zero]
      have e1 : (xup h o k v) o k = v := by simp [xup]
      rw [e1]
      congr 1
      refine List.ext_getElem? fun j => ?_
      rw [xfl_at, xfl_at]
      congr 1
      funext q
      obtain ⟨x, y, z⟩ := q
      cases x with
      | zero => simp [xup, show ¬ (k + 1 + j = k) by omega]
      | succ x => rfl
    · have e2 : b - k = (b - (k + 1)) + 1 := by omega
      have h9 := ih (k + 1) (by omega) (fun q hh => hq q (by rw [e2]; exact hh))
      obtain ⟨x, y, z⟩ := a
      rw [e2]
      cases x with
      | zero =>
        simp only [xfl, List.set_cons_succ, h9]
        have e1 : (xup h o b v) o k = h o k := by simp [xup, e]
        rw [e1]
      | succ x => simp only [xfl, List.set_cons_succ, h9]
/-! references that stand for something; locals; the stack -/
def xrf (lo n t o : Nat) : Prop := t = 0 ∨ (t = 4 ∧ o < 4) ∨ (t = 5 ∧ o < 16) ∨ (t = 9 ∧ o < 16) ∨ (lo ≤ o ∧ o < lo + n ∧ kdX o = t ∧ t ≠ 4 ∧ t ≠ 5 ∧ t ≠ 9)
def xok (lo n : Nat) : xV → Prop
  | .inr (.inr (t, o)) => xrf lo n t o
  | _ => True
def xoks (lo n : Nat) (st : List xV) : Prop := ∀ v ∈ st, xok lo n v
def xokl (lo n : Nat) (ls : List (Option xV)) : Prop := ∀ i v, xget ls i = some v → xok lo n v
def xls (G : xG) (nL : Nat) (lsA : Array Slot) (ls : List (Option xV)) : Prop := lsA.size = nL ∧ lv_wf lsA ∧ ∀ i v, xget ls i = some v → lsA[i]? = some (.val (xcv G v))
def xkn (G : xG) : Nat → List (Option xV) → List (Nat × Value)
  | _, [] => []
  | k, none :: l => xkn G (k + 1) l
  | k, some v :: l => (k, xcv G v) :: xkn G (k + 1) l
theorem xkn_mem {G : xG} : ∀ (l : List (Option xV)) (k : Nat) (q : Nat × Value), q ∈ xkn G k l → ∃ i v, xget l i = some v ∧ q = (k + i, xcv G v) := by
  intro l
  induction l with
  | nil => intro k q h; cases h
  | cons a l ih =>
    intro k q h
    cases a with
    | none =>
      obtain ⟨i, v, h1, h2⟩ := ih (k + 1) q h
      exact ⟨i + 1, v, h1, by rw [h2]; congr 1; omega⟩
    | some w =>
      rcases List.mem_cons.mp h with h | h
      · exact ⟨0, w, rfl, h⟩
      · obtain ⟨i, v, h1, h2⟩ := ih (k + 1) q h
        exact ⟨i + 1, v, h1, by rw [h2]; congr 1; omega⟩
theorem xkn_in {G : xG} : ∀ (l : List (Option xV)) (k i : Nat) (v : xV), xget l i = some v → (k + i, xcv G v) ∈ xkn G k l := by
  intro l
  induction l with
  | nil => intro k i v h; cases h
  | cons a l ih =>
    intro k i v h
    cases i with
    | zero =>
      cases a with
      | none => cases h
      | some w => cases h; exact List.mem_cons_self
    | succ i =>
      have h1 := ih (k + 1) i v h
      rw [show k + 1 + i = k + (i + 1) by omega] at h1
      cases a with
      | none => exact h1
      | some w => exact List.mem_cons_of_mem _ h1
theorem xls_has {G : xG} {nL : Nat} {lsA : Array Slot} {ls : List (Option xV)} (h : xls G nL lsA ls) : lv_has lsA nL (xkn G 0 ls) := by
  refine ⟨h.1, h.2.1, fun q hq => ?_⟩
  obtain ⟨i, v, h1, rfl⟩ := xkn_mem ls 0 q hq
  show lsA[0 + i]? = _
  rw [Nat.zero_add]
  exact h.2.2 i v h1
theorem xget_set : ∀ (ls : List (Option xV)) (i : Nat) (w : Option xV) (j : Nat) (v : xV), xget (xset ls i w) j = some v → (j = i ∧ w = some v) ∨ (j ≠ i ∧ xget ls j = some v) := by
  intro ls
  induction ls with
  | nil => intro i w j v h; cases h
  | cons a ls ih =>
    intro i w j v h
    cases i with
    | zero =>
      cases j with
      | zero => exact Or.inl ⟨rfl, h⟩
      | succ j => exact Or.inr ⟨by omega, h⟩
    | succ i =>
      cases j with
      | zero => exact Or.inr ⟨by omega, h⟩
      | succ j =>
        rcases ih i w j v h with ⟨h1, h2⟩ | ⟨h1, h2⟩
        · exact Or.inl ⟨by omega, h2⟩
        · exact Or.inr ⟨by omega, h2⟩
theorem xlg_no : ∀ (ls : List (Option xV)) (i j : Nat) (x : Int64), xlg ls i = false → j + 1 = i → xget ls j = some (.inr (.inl x)) → False := by
  intro ls
  induction ls with
  | nil => intro i j x _ _ h; cases h
  | cons a ls ih =>
    intro i j x hl hj h
    subst hj
    cases j with
    | zero =>
      have e : a = some (.inr (.inl x)) := h
      subst e
      cases hl
    | succ j => exact ih (j + 1) j x hl rfl h
theorem xcv_cat {G : xG} {v : xV} (hov : (gov G).category = 1) : (xcv G v).category = 2 → ∃ x, v = .inr (.inl x) := by
  intro h
  rcases v with x | x | ⟨t, o⟩
  · cases h
  · exact ⟨x, rfl⟩
  · exfalso
    by_cases ht : t = 0
    · subst ht
      have e : xcv G (.inr (.inr (0, o))) = gov G := by simp [xcv]
      rw [e, hov] at h
      cases h
    · have e : xcv G (.inr (.inr (t, o))) = .ref (xadr G t o) := if_neg ht
      rw [e] at h
      cases h
theorem xcv_cat1 {G : xG} {v : xV} (hov : (gov G).category = 1) (h : ∀ x, v ≠ .inr (.inl x)) : (xcv G v).category = 1 := by
  rcases lv_cat (xcv G v) with h1 | h1
  · exact h1
  · obtain ⟨x, e⟩ := xcv_cat hov h1
    exact absurd e (h x)
/-- behind a store -/
theorem xls_store {G : xG} {nL i : Nat} {lsA : Array Slot} {ls : List (Option xV)} {w : xV} (hov : (gov G).category = 1) (hlg : xlg ls i = false)
    (h : lv_has lsA nL ((i, xcv G w) :: (xkn G 0 ls).filter (fun q => !(q.1 == i) && !(q.1 + 1 == i && q.2.category == 2)))) : xls G nL lsA (xset ls i (some w)) := by
  refine ⟨h.1, h.2.1, fun j v hj => ?_⟩
  rcases xget_set ls i (some w) j v hj with ⟨e1, e2⟩ | ⟨e1, e2⟩
  · cases e2
    subst e1
    exact h.2.2 (j, xcv G w) List.mem_cons_self
  · refine h.2.2 (j, xcv G v) (List.mem_cons_of_mem _ (List.mem_filter.mpr ⟨?_, ?_⟩))
    · have := xkn_in (G := G) ls 0 j v e2
      rwa [Nat.zero_add] at this
    · have a1 : (j == i) = false := by simpa using e1
      have a2 : (j + 1 == i && (xcv G v).category == 2) = false := by
        by_cases q : j + 1 = i
        · have : ¬ (xcv G v).category = 2 := by
            intro q2
            obtain ⟨x, e⟩ := xcv_cat hov q2
            exact xlg_no ls i j x hlg q (by rw [e2, e])
          simp [this]
        · simp [q]
      simp [a1, a2]
theorem xokl_set {lo n i : Nat} {ls : List (Option xV)} {w : xV} (h : xokl lo n ls) (hw : xok lo n w) : xokl lo n (xset ls i (some w)) := by
  intro j v hj
  rcases xget_set ls i (some w) j v hj with ⟨-, e2⟩ | ⟨-, e2⟩
  · cases e2; exact hw
  · exact h j v e2
theorem xget_kill : ∀ (ls : List (Option xV)) (m : List Bool) (i : Nat) (v : xV), xget (xkill ls m) i = some v → xget ls i = some v := by
  intro ls
  induction ls with
  | nil => intro m i v h; cases m <;> cases h
  | cons a ls ih =>
    intro m i v h
    cases m with
    | nil => exact h
    | cons b m =>
      cases i with
      | zero =>
        cases b with
        | true => exact h
        | false => cases h
      | succ i => exact ih m i v h
theorem xtk_eq : ∀ (b : Nat) (acc st : List xV) (r : List xV × List xV), xtk b acc st = some r → ∃ u, st = u ++ r.2 ∧ r.1 = u.reverse ++ acc ∧ u.length = b := by
  intro b
  induction b with
  | zero =>
    intro acc st r h
    cases h
    exact ⟨[], rfl, rfl, rfl⟩
  | succ b ih =>
    intro acc st r h
    cases st with
    | nil => cases h
    | cons v st =>
      obtain ⟨u, h1, h2, h3⟩ := ih (v :: acc) st r h
      exact ⟨v :: u, by rw [h1]; rfl, by rw [h2]; simp, by simp [h3]⟩
theorem xfit_sum {G : xG} : ∀ (n : Nat) (st : List xV), xfit n st = true → ((st.map (xcv G)).map fun v => v.category).sum ≤ 2 * n := by
  intro n
  induction n with
  | zero =>
    intro st h
    cases st with
    | nil => simp
    | cons v st => cases h
  | succ n ih =>
    intro st h
    cases st with
    | nil => simp
    | cons v st =>
      have h1 := ih st h
      simp only [List.map_cons, List.sum_cons]
      rcases lv_cat (xcv G v) with h2 | h2 <;> omega
