/-! PURE, part 45: what can be reached, in thought: apart from both programs -/
def plc (c : crft) : Int := 12 * c.1 + 3 * c.2.1 + c.2.2.1
def unp (p h : Int) : crft := (p / 12, p / 3 % 4, p % 3, h)
theorem unp_plc {c : crft} (h2 : 0 ≤ c.2.1 ∧ c.2.1 ≤ 3) (h3 : 0 ≤ c.2.2.1 ∧ c.2.2.1 ≤ 2) : unp (plc c) c.2.2.2 = c := by
  obtain ⟨a, b, s, h⟩ := c
  unfold unp plc
  simp only at h2 h3 ⊢
  rw [show (12 * a + 3 * b + s) / 12 = a by omega, show (12 * a + 3 * b + s) / 3 % 4 = b by omega, show (12 * a + 3 * b + s) % 3 = s by omega]
theorem unp_plc2 {c : crft} (h2 : 0 ≤ c.2.1 ∧ c.2.1 ≤ 3) (h3 : 0 ≤ c.2.2.1 ∧ c.2.2.1 ≤ 2) (h : Int) : unp (plc c) h = (c.1, c.2.1, c.2.2.1, h) := unp_plc (c := (c.1, c.2.1, c.2.2.1, h)) h2 h3
theorem plc_unp (p h : Int) : plc (unp p h) = p := by
  unfold plc unp
  simp only
  omega
theorem plc_b {v : Int → Int} (hL : LandI v) {c : crft} (hC : okC v c) : 0 ≤ plc c ∧ plc c < 768 := by
  have har := area hL.1 hL.2.1
  obtain ⟨h1, h2, h3, h4⟩ := hC
  unfold plc
  omega
def RchN (v : Int → Int) (c0 : crft) : Nat → crft → Prop
  | 0, c => c = c0
  | n + 1, c => ∃ c' a, RchN v c0 n c' ∧ mayC v c' a ∧ c = spAct v c' a
def Rch (v : Int → Int) (c0 c : crft) : Prop := ∃ n, RchN v c0 n c
theorem Rch_base {v : Int → Int} {c0 : crft} : Rch v c0 c0 := ⟨0, rfl⟩
theorem Rch_step {v : Int → Int} {c0 c : crft} {a : Int} (h : Rch v c0 c) (hm : mayC v c a) : Rch v c0 (spAct v c a) := by
  obtain ⟨n, h⟩ := h
  exact ⟨n + 1, c, a, h, hm, rfl⟩
theorem Rch_ind {v : Int → Int} {c0 : crft} {P : crft → Prop} (hb : P c0) (hs : ∀ c a, Rch v c0 c → P c → mayC v c a → P (spAct v c a)) {c : crft} (h : Rch v c0 c) : P c := by
  obtain ⟨n, h⟩ := h
  induction n generalizing c with
  | zero => rw [show c = c0 from h]; exact hb
  | succ n ih =>
    obtain ⟨c', a, h1, h2, h3⟩ := h
    rw [h3]
    exact hs c' a ⟨n, h1⟩ (ih h1) h2
theorem Rch_ok {v : Int → Int} (hL : LandI v) {c0 c : crft} (h0 : okC v c0) (h : Rch v c0 c) : okC v c := Rch_ind h0 (fun _ _ _ ih hm => okC_act hL ih hm) h
/-- an ACT brings the HEIGHT down -/
theorem act_dn {v : Int → Int} (hL : LandI v) {c : crft} (hC : okC v c) {a : Int} (hm : mayC v c a) : (spAct v c a).2.2.2 < c.2.2.2 := by
  have har := area hL.1 hL.2.1
  obtain ⟨h1, h2, h3, h4⟩ := hC
  obtain ⟨m1, m2, m3, m4⟩ := hm
  have gr := hL.2.2.1 c.1 h1.1 (by omega)
  have l := spLoss_b hL a (spTurn_b c.2.1 a) m3
  show spSink c.2.2.2 _ < _
  unfold spSink
  split <;> omega
theorem spSink_mono {h H l : Int} (hH : h ≤ H) : spSink h l ≤ spSink H l := by
  unfold spSink
  split <;> split <;> omega
/-- from higher up the same ACT may be, and leads to the same place, no lower -/
theorem act_mono {v : Int → Int} {a b s h H k : Int} (hH : h ≤ H) (hm : mayC v (a, b, s, h) k) : mayC v (a, b, s, H) k ∧ plc (spAct v (a, b, s, H) k) = plc (spAct v (a, b, s, h) k) ∧ (spAct v (a, b, s, h) k).2.2.2 ≤ (spAct v (a, b, s, H) k).2.2.2 := by
  obtain ⟨m1, m2, m3, m4⟩ := hm
  refine ⟨⟨m1, fun w => m2 (by simp only at w ⊢; omega), m3, m4⟩, rfl, ?_⟩
  exact spSink_mono hH
def clsd (v : Int → Int) (b : Int → Int) (p : Int) : Prop := ∀ a, mayC v (unp p (b p)) a → (spAct v (unp p (b p)) a).2.2.2 ≤ b (plc (spAct v (unp p (b p)) a))
theorem Rch_max {v : Int → Int} (hL : LandI v) {c0 : crft} (h0 : okC v c0) {b : Int → Int} {H : Int} (hb : c0.2.2.2 ≤ b (plc c0)) (hc : ∀ p, 0 ≤ p → p < 768 → H < b p → clsd v b p) {c : crft} (h : Rch v c0 c) : H < c.2.2.2 → c.2.2.2 ≤ b (plc c) := by
  refine Rch_ind (P := fun c => H < c.2.2.2 → c.2.2.2 ≤ b (plc c)) (fun _ => hb) ?_ h
  · intro c a hr ih hm hH
    have ok := Rch_ok hL h0 hr
    have dn := act_dn hL ok hm
    have i := ih (by omega)
    have pb := plc_b hL ok
    have cl := hc (plc c) pb.1 pb.2 (by omega)
    have m := act_mono (v := v) (a := c.1) (b := c.2.1) (s := c.2.2.1) (h := c.2.2.2) (H := b (plc c)) i hm
    have k := cl a (by rw [unp_plc2 ok.2.1 ok.2.2.1]; exact m.1)
    rw [unp_plc2 ok.2.1 ok.2.2.1, m.2.1] at k
    exact Int.le_trans m.2.2 k
/-- what a search for the greatest HEIGHT may answer: negative if there is none -/
def GR (v : Int → Int) (c0 : crft) (T : crft → Prop) (g : Int) : Prop := (0 ≤ g → ∃ c, Rch v c0 c ∧ T c ∧ c.2.2.2 = g) ∧ ∀ c, Rch v c0 c → T c → c.2.2.2 ≤ g
theorem GR_u {v : Int → Int} (hL : LandI v) {c0 : crft} (h0 : okC v c0) {T : crft → Prop} {g g' : Int} (h : GR v c0 T g) (h' : GR v c0 T g') : (g < 0 ↔ g' < 0) ∧ (0 ≤ g → g = g') := by
  have w : ∀ x y, GR v c0 T x → GR v c0 T y → 0 ≤ x → x ≤ y := by
    intro x y hx hy x0
    obtain ⟨c, c1, c2, c3⟩ := hx.1 x0
    have := hy.2 c c1 c2
    omega
  refine ⟨⟨fun q => ?_, fun q => ?_⟩, fun q => ?_⟩
  · by_cases y0 : 0 ≤ g'
    · have := w g' g h' h y0; omega
    · omega
  · by_cases y0 : 0 ≤ g
    · have := w g g' h h' y0; omega
    · omega
  · have := w g g' h h' q
    have := w g' g h' h (by omega)
    omega
/-- a straight ACT: from later on no more can be reached -/
theorem Rch_tr {v : Int → Int} {c0 c1 c : crft} (h1 : Rch v c0 c1) (h : Rch v c1 c) : Rch v c0 c := Rch_ind h1 (fun _ _ _ ih hm => Rch_step ih hm) h
