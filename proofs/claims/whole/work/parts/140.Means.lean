/-! PURE, part 70: what the codes of both mean -/
def CrunL (r : Int → Int) : List Int → Int → Int → Prop
  | [], s, s' => s' = s
  | c :: cs, s, s' => cOk c ∧ (0 ≤ s ∧ s < 268435456) ∧ CrunL r cs (cStep r c s) s'
theorem CrunL_a {r : Int → Int} : ∀ (l1 l2 : List Int) (s t u : Int), CrunL r l1 s t → CrunL r l2 t u → CrunL r (l1 ++ l2) s u := by
  intro l1
  induction l1 with
  | nil => intro l2 s t u h1 h2; rw [show t = s from h1] at h2; exact h2
  | cons c l1 ih => intro l2 s t u h1 h2; exact ⟨h1.1, h1.2.1, ih l2 _ t u h1.2.2 h2⟩
def MrunL (r : Int → Int) : List Int → (Int → Int) → Int → (Int → Int) → Int → Prop
  | [], p, n, p', n' => p' = p ∧ n' = n
  | c :: cs, p, n, p', n' => mOk c n ∧ (0 ≤ n ∧ n < 100) ∧ MrunL r cs (mStep r c p n).1 (mStep r c p n).2 p' n'
theorem MrunL_a {r : Int → Int} : ∀ (l1 l2 : List Int) (p : Int → Int) (n : Int) (q : Int → Int) (k : Int) (u : Int → Int) (j : Int), MrunL r l1 p n q k → MrunL r l2 q k u j → MrunL r (l1 ++ l2) p n u j := by
  intro l1
  induction l1 with
  | nil => intro l2 p n q k u j h1 h2; rw [h1.1, h1.2] at h2; exact h2
  | cons c l1 ih => intro l2 p n q k u j h1 h2; exact ⟨h1.1, h1.2.1, ih l2 _ _ q k u j h1.2.2 h2⟩
def has (f : Int → Int) : Int → List Int → Prop
  | _, [] => True
  | a, c :: cs => f a = c ∧ has f (a + 1) cs
theorem has_t {f g : Int → Int} : ∀ (l : List Int) (a : Int), (∀ j, a ≤ j → j < a + l.length → g j = f j) → has f a l → has g a l := by
  intro l
  induction l with
  | nil => intro a _ _; exact trivial
  | cons c l ih =>
    intro a h hf
    simp only [List.length_cons] at h
    exact ⟨by rw [h a (by omega) (by omega)]; exact hf.1, ih (a + 1) (fun j j0 j1 => h j (by omega) (by omega)) hf.2⟩
theorem has_a {f : Int → Int} : ∀ (l1 l2 : List Int) (a : Int), has f a l1 → has f (a + l1.length) l2 → has f a (l1 ++ l2) := by
  intro l1
  induction l1 with
  | nil => intro l2 a _ h; simp only [List.length_nil] at h; rw [show a + ((0 : Nat) : Int) = a by omega] at h; exact h
  | cons c l1 ih =>
    intro l2 a h1 h2
    simp only [List.length_cons] at h2
    exact ⟨h1.1, ih l2 (a + 1) h1.2 (by rw [show a + 1 + (l1.length : Int) = a + ((l1.length + 1 : Nat) : Int) by omega]; exact h2)⟩
theorem Crun_h {co r : Int → Int} : ∀ (l : List Int) (a s s' : Int), has co a l → CrunL r l s s' → Crun co r l.length a s s' := by
  intro l
  induction l with
  | nil => intro a s s' _ h; exact h
  | cons c l ih =>
    intro a s s' h1 h2
    refine ⟨by rw [h1.1]; exact h2.1, h2.2.1, ?_⟩
    rw [h1.1]
    exact ih (a + 1) _ _ h1.2 h2.2.2
theorem Mrun_h {co r : Int → Int} : ∀ (l : List Int) (a : Int) (p : Int → Int) (n : Int) (p' : Int → Int) (n' : Int), has co a l → MrunL r l p n p' n' → Mrun co r l.length a p n p' n' := by
  intro l
  induction l with
  | nil => intro a p n p' n' _ h; exact h
  | cons c l ih =>
    intro a p n p' n' h1 h2
    refine ⟨by rw [h1.1]; exact h2.1, h2.2.1, ?_⟩
    rw [h1.1]
    exact ih (a + 1) _ _ _ _ h1.2 h2.2.2
abbrev BF : Type := (Int → Int) → Int
def b01 (F : BF) : Prop := ∀ r, F r = 0 ∨ F r = 1
def CD (cc : List Int) (F : BF) (S : Int) : Prop := ∀ r s, 0 ≤ s → s < S → CrunL r cc s (2 * s + F r)
def MD (mc : List Int) (F : BF) (E : Int) : Prop := ∀ r p n, 0 ≤ n → n < E → (∀ j, 0 ≤ j → j < n → p j = 0 ∨ p j = 1) → ∃ p', MrunL r mc p n p' (n + 1) ∧ p' n = F r ∧ ∀ j, j < n → p' j = p j
def DN (S E : Int) (r : PR) : Prop := r.1 = true → ∃ F, b01 F ∧ CD r.2.2.1 F S ∧ MD r.2.2.2 F E
theorem CD_w {cc : List Int} {F : BF} {S S' : Int} (h : CD cc F S) (hs : S' ≤ S) : CD cc F S' := fun r s s0 s1 => h r s s0 (by omega)
theorem MD_w {mc : List Int} {F : BF} {E E' : Int} (h : MD mc F E) (he : E' ≤ E) : MD mc F E' := fun r p n n0 n1 hp => h r p n n0 (by omega) hp
theorem DN_w {S E S' E' : Int} {r : PR} (h : DN S E r) (hs : S' ≤ S) (he : E' ≤ E) : DN S' E' r := by
  intro hr
  obtain ⟨F, f1, f2, f3⟩ := h hr
  exact ⟨F, f1, CD_w f2 hs, MD_w f3 he⟩
def nF (F : BF) : BF := fun r => 1 - F r
def aF (F G : BF) : BF := fun r => F r * G r
def oF (F G : BF) : BF := fun r => F r + G r - F r * G r
theorem nF_b {F : BF} (h : b01 F) : b01 (nF F) := by intro r; unfold nF; rcases h r with e | e <;> rw [e] <;> simp
theorem aF_b {F G : BF} (h : b01 F) (k : b01 G) : b01 (aF F G) := by intro r; unfold aF; rcases h r with e | e <;> rcases k r with g | g <;> rw [e, g] <;> simp
theorem oF_b {F G : BF} (h : b01 F) (k : b01 G) : b01 (oF F G) := by intro r; unfold oF; rcases h r with e | e <;> rcases k r with g | g <;> rw [e, g] <;> simp
theorem CD_not {cc : List Int} {F : BF} {S : Int} (hF : b01 F) (hS : S ≤ 67108864) (h : CD cc F S) : CD (cc ++ [0]) (nF F) S := by
  intro r s s0 s1
  refine CrunL_a _ _ _ _ _ (h r s s0 s1) ?_
  have f := hF r
  refine ⟨⟨by omega, by omega, fun x => absurd x (by omega)⟩, ⟨by omega, by omega⟩, ?_⟩
  show 2 * s + (1 - F r) = cStep r 0 (2 * s + F r)
  unfold cStep
  rw [if_pos rfl]
  omega
theorem MD_not {mc : List Int} {F : BF} {E : Int} (hE : E ≤ 98) (h : MD mc F E) : MD (mc ++ [-1]) (nF F) E := by
  intro r p n n0 n1 hp
  obtain ⟨p', a1, a2, a3⟩ := h r p n n0 n1 hp
  refine ⟨mPut p' n (1 - p' n), MrunL_a _ _ _ _ _ _ _ _ a1 ?_, ?_, fun j hj => ?_⟩
  · refine ⟨?_, ⟨by omega, by omega⟩, ?_⟩
    · unfold mOk
      rw [if_neg (by omega), if_pos rfl]
      omega
    · unfold mStep
      rw [if_neg (by omega), if_pos rfl]
      simp only
      rw [show n + 1 - 1 = n by omega]
      exact ⟨rfl, rfl⟩
  · rw [mPut_s, a2]; rfl
  · rw [mPut_o (by omega)]; exact a3 j hj
theorem MD_nots {E : Int} (hE : E ≤ 98) : ∀ (k : Nat) (mc : List Int) (F : BF), MD mc F E → MD (mc ++ List.replicate k (-1)) (if k % 2 = 1 then nF F else F) E := by
  intro k
  induction k with
  | zero => intro mc F h; simp only [List.replicate_zero, List.append_nil]; rw [if_neg (by omega)]; exact h
  | succ k ih =>
    intro mc F h
    have a := ih (mc ++ [-1]) (nF F) (MD_not hE h)
    rw [List.append_assoc] at a
    rw [List.replicate_succ]
    have e : (if k % 2 = 1 then nF (nF F) else nF F) = if (k + 1) % 2 = 1 then nF F else F := by
      by_cases q : k % 2 = 1
      · rw [if_pos q, if_neg (by omega)]
        funext r
        unfold nF
        omega
      · rw [if_neg q, if_pos (by omega)]
    rw [e] at a
    exact a
/-- joined: 1, -2 are and; 2, -3 are or -/
def jF (c : Int) (F G : BF) : BF := if c = 1 then aF F G else oF F G
theorem jF_b {c : Int} {F G : BF} (h : b01 F) (k : b01 G) : b01 (jF c F G) := by
  unfold jF
  split
  · exact aF_b h k
  · exact oF_b h k
theorem CD_join {c1 c2 : List Int} {F G : BF} {S S' c : Int} (hc : c = 1 ∨ c = 2) (hF : b01 F) (hG : b01 G) (hS : 2 * S' ≤ S) (hS2 : S ≤ 67108864) (h1 : CD c1 F S') (h2 : CD c2 G S) : CD (c1 ++ (c2 ++ [c])) (jF c F G) S' := by
  intro r s s0 s1
  have f := hF r
  have g := hG r
  refine CrunL_a _ _ _ _ _ (h1 r s s0 s1) (CrunL_a _ _ _ _ _ (h2 r (2 * s + F r) (by omega) (by omega)) ?_)
  refine ⟨⟨by omega, by omega, fun x => absurd x (by omega)⟩, ⟨by omega, by omega⟩, ?_⟩
  rcases hc with e | e <;> subst e
  · show 2 * s + aF F G r = cStep r 1 (2 * (2 * s + F r) + G r)
    unfold cStep aF
    rw [if_neg (by omega), if_pos rfl]
    rcases f with e | e <;> rcases g with e' | e' <;> rw [e, e'] <;> split <;> omega
  · show 2 * s + oF F G r = cStep r 2 (2 * (2 * s + F r) + G r)
    unfold cStep oF
    rw [if_neg (by omega), if_neg (by omega), if_pos rfl]
    rcases f with e | e <;> rcases g with e' | e' <;> rw [e, e'] <;> split <;> omega
theorem MD_join {m1 m2 : List Int} {F G : BF} {E E' c : Int} (hc : c = 1 ∨ c = 2) (hF : b01 F) (hE : E' + 1 ≤ E) (hE2 : E ≤ 98) (h1 : MD m1 F E') (h2 : MD m2 G E) : MD (m1 ++ (m2 ++ [-c - 1])) (jF c F G) E' := by
  intro r p n n0 n1 hp
  obtain ⟨p1, a1, a2, a3⟩ := h1 r p n n0 n1 hp
  obtain ⟨p2, b1, b2, b3⟩ := h2 r p1 (n + 1) (by omega) (by omega) (fun j j0 j1 => by
    by_cases e : j = n
    · rw [e, a2]; exact hF r
    · rw [a3 j (by omega)]; exact hp j j0 (by omega))
  have e0 : p2 n = F r := by rw [b3 n (by omega)]; exact a2
  refine ⟨mPut p2 n (jF c F G r), MrunL_a _ _ _ _ _ _ _ _ a1 (MrunL_a _ _ _ _ _ _ _ _ b1 ?_), by rw [mPut_s], fun j hj => ?_⟩
  · refine ⟨?_, ⟨by omega, by omega⟩, ?_⟩
    · unfold mOk
      rw [if_neg (by omega), if_neg (by omega)]
      exact ⟨by omega, by omega⟩
    · unfold mStep
      rw [if_neg (by omega), if_neg (by omega)]
      simp only
      rw [show n + 1 + 1 - 2 = n by omega, show n + 1 + 1 - 1 = n + 1 by omega, e0, b2]
      rcases hc with e | e <;> subst e
      · rw [if_pos (by omega)]
        exact ⟨rfl, rfl⟩
      · rw [if_neg (by omega)]
        exact ⟨rfl, rfl⟩
  · rw [mPut_o (by omega), b3 j (by omega)]; exact a3 j hj
theorem vVl_b {K W : Nat → Int} {B : Nat → Int} {m : Nat} (h : TKO K W B m) {i : Nat} (hv : vOk K W i) : 0 ≤ vVl K W i ∧ vVl K W i ≤ 1006 := by
  unfold vVl
  rcases hv with q | ⟨q1, q2, q3⟩
  · rw [if_pos q]; have := h.2.2.2.1 i q; omega
  · rw [if_neg (by omega)]; omega
theorem DN_cmp {K W : Nat → Int} {B : Nat → Int} {m : Nat} (h : TKO K W B m) {S E : Int} (hS : S ≤ 67108864) (hE : E ≤ 98) (i : Nat) : DN S E (pCmp K W i) := by
  intro hr
  unfold pCmp at hr ⊢
  by_cases q : vOkB K W i = true
  · rw [if_pos q] at hr ⊢
    by_cases w : 0 ≤ sgn K W (i + 1)
    · rw [if_pos w] at hr ⊢
      by_cases x : vOkB K W (i + 2) = true
      · rw [if_pos x]
        have a := vVl_b h ((vOkB_i K W i).mp q)
        have b := vVl_b h ((vOkB_i K W (i + 2)).mp x)
        have s := sgn_b K W (i + 1)
        generalize vVl K W i = va at *
        generalize vVl K W (i + 2) = vb at *
        generalize sgn K W (i + 1) = sg at *
        refine ⟨fun r => vCmp sg (vVal r va) (vVal r vb), fun r => ?_, fun r t t0 t1 => ⟨⟨?_, ?_, ?_⟩, ⟨t0, by omega⟩, ?_⟩, fun r p n n0 n1 hp => ⟨mPut p n (vCmp sg (vVal r va) (vVal r vb)), ⟨?_, ⟨n0, by omega⟩, ?_⟩, by rw [mPut_s], fun j hj => mPut_o (by omega)⟩⟩
        · exact vCmp_b _ _ _
        · unfold cdC; omega
        · unfold cdC; omega
        · intro _; unfold cdC; omega
        · show 2 * t + vCmp sg (vVal r va) (vVal r vb) = cStep r (cdC sg va vb) t
          have e1 : (cdC sg va vb - 3) / 1024 / 1024 = sg := by unfold cdC; omega
          have e2 : (cdC sg va vb - 3) / 1024 % 1024 = va := by unfold cdC; omega
          have e3 : (cdC sg va vb - 3) % 1024 = vb := by unfold cdC; omega
          have e4 : 3 ≤ cdC sg va vb := by unfold cdC; omega
          unfold cStep
          rw [if_neg (by omega), if_neg (by omega), if_neg (by omega), e1, e2, e3]
        · have e1 : 0 ≤ cdM sg va vb := by unfold cdM; omega
          unfold mOk
          rw [if_pos e1]
          unfold cdM
          omega
        · have e1 : cdM sg va vb / 1010 / 1010 = sg := by unfold cdM; omega
          have e2 : cdM sg va vb / 1010 % 1010 = va := by unfold cdM; omega
          have e3 : cdM sg va vb % 1010 = vb := by unfold cdM; omega
          have e4 : 0 ≤ cdM sg va vb := by unfold cdM; omega
          unfold mStep
          rw [if_pos e4, e1, e2, e3]
          exact ⟨rfl, rfl⟩
      · rw [if_neg x] at hr
        cases hr
    · rw [if_neg w] at hr
      cases hr
  · rw [if_neg q] at hr
    cases hr
theorem DN_one {K W : Nat → Int} {B : Nat → Int} {m : Nat} (h : TKO K W B m) {S E : Int} (hS : S ≤ 67108864) (hE : E ≤ 98) {b : Nat → PR} (hb : ∀ j, DN S E (b j)) (i : Nat) : DN S E (pOne K W b i) := by
  intro hr
  have d : DN S E (pOn2 K W b (i + nots K W 240 i)) := by
    unfold pOn2
    split
    · exact hb _
    · exact DN_cmp h hS hE _
  obtain ⟨F, f1, f2, f3⟩ := d hr
  refine ⟨if nots K W 240 i % 2 = 1 then nF F else F, ?_, ?_, MD_nots hE _ _ _ f3⟩
  · split
    · exact nF_b f1
    · exact f1
  · show CD ((pOn2 K W b (i + nots K W 240 i)).2.2.1 ++ (if nots K W 240 i % 2 = 1 then [0] else [])) _ S
    split
    · exact CD_not f1 hS f2
    · rw [List.append_nil]; exact f2
theorem DN_joL {K W : Nat → Int} {S E S' E' : Int} (hS : 2 * S' ≤ S) (hS2 : S ≤ 67108864) (hE : E' + 1 ≤ E) (hE2 : E ≤ 98) {o : Nat → PR} (ho : ∀ j, DN S E (o j)) {w c : Int} (hc : c = 1 ∨ c = 2) : ∀ (f i : Nat) (cc mc : List Int), (∃ F, b01 F ∧ CD cc F S' ∧ MD mc F E') → DN S' E' (joL K W o w c (-c - 1) f i cc mc) := by
  intro f
  induction f with
  | zero => intro i cc mc h _; exact h
  | succ f ih =>
    intro i cc mc h
    unfold joL
    split
    · split
      · rename_i x
        obtain ⟨F, f1, f2, f3⟩ := h
        obtain ⟨G, g1, g2, g3⟩ := ho (i + 1) x
        exact ih _ _ _ ⟨jF c F G, jF_b f1 g1, CD_join hc f1 g1 hS hS2 f2 g2, MD_join hc f1 hE hE2 f3 g3⟩
      · exact fun y => by cases y
    · exact fun _ => h
theorem DN_join {K W : Nat → Int} {S E S' E' : Int} (hS : 2 * S' ≤ S) (h0 : 0 ≤ S') (hS2 : S ≤ 67108864) (hE : E' + 1 ≤ E) (hE2 : E ≤ 98) {o : Nat → PR} (ho : ∀ j, DN S E (o j)) {w c : Int} (hc : c = 1 ∨ c = 2) (i : Nat) : DN S' E' (pJoin K W o w c (-c - 1) i) := by
  unfold pJoin
  split
  · rename_i x
    exact DN_joL hS hS2 hE hE2 ho hc 240 _ _ _ (DN_w (ho i) (by omega) (by omega) x)
  · exact fun y => by cases y
theorem DN_cond {K W : Nat → Int} {B : Nat → Int} {m : Nat} (h : TKO K W B m) {S E : Int} (h0 : 0 ≤ S) (hS : 4 * S ≤ 67108864) (hE : E + 2 ≤ 98) {b : Nat → PR} (hb : ∀ j, DN (4 * S) (E + 2) (b j)) (i : Nat) : DN S E (pCond K W b i) := by
  have a : ∀ j, DN (2 * S) (E + 1) (pAll K W b j) := fun j => DN_join (c := 1) (S := 4 * S) (E := E + 2) (by omega) (by omega) hS (by omega) hE (fun j => DN_one h hS hE hb j) (Or.inl rfl) j
  exact DN_join (c := 2) (S := 2 * S) (E := E + 1) (by omega) h0 (by omega) (by omega) (by omega) a (Or.inr rfl) i
theorem DN_bro {K W : Nat → Int} {B : Nat → Int} {m : Nat} (h : TKO K W B m) : ∀ (g : Nat) (S E : Int), 0 ≤ S → S * 4 ^ g ≤ 67108864 → E + 2 * g ≤ 98 → ∀ j, DN S E (bro K W g j) := by
  intro g
  induction g with
  | zero => intro S E _ _ _ j y; cases y
  | succ g ih =>
    intro S E h0 hS hE j
    have p1 : (1 : Int) ≤ 4 ^ g := by
      have : (0 : Int) < 4 ^ g := Int.pow_pos (by decide)
      omega
    have e : S * 4 ^ (g + 1) = (4 * S) * 4 ^ g := by rw [Int.pow_succ, Int.mul_comm (4 ^ g) 4, ← Int.mul_assoc, Int.mul_comm S 4]
    rw [e] at hS
    have s4 : 4 * S ≤ (4 * S) * 4 ^ g := by
      have := Int.mul_le_mul_of_nonneg_left p1 (show 0 ≤ 4 * S by omega)
      omega
    have c := DN_cond h (S := S) (E := E) h0 (by omega) (by omega) (b := bro K W g) (fun j => ih (4 * S) (E + 2) (by omega) hS (by omega) j)
    unfold bro
    split
    · rename_i x
      split
      · exact fun _ => c (j + 1) x
      · exact fun y => by cases y
    · exact fun y => by cases y
/-- from lists to rows: what a LINE's two codes mean together -/
theorem DN_Den {S E : Int} {r : PR} (h : DN S E r) (hr : r.1 = true) (hS : 4096 ≤ S) (hE : 85 ≤ E) {co mo : Int → Int} {a ma : Int} (h1 : has co a r.2.2.1) (h2 : has mo ma r.2.2.2) (ba : 0 ≤ a ∧ a + r.2.2.1.length ≤ 240) (bm : 0 ≤ ma ∧ ma + r.2.2.2.length ≤ 160) : ∃ F, Den co mo a (a + r.2.2.1.length) ma (ma + r.2.2.2.length) F 16 := by
  obtain ⟨F, f1, f2, f3⟩ := h hr
  refine ⟨F, ⟨by omega, by omega, by omega⟩, ⟨by omega, by omega, by omega⟩, f1, fun x s s0 s1 => ?_, fun x p n n0 n1 hp => ?_⟩
  · rw [show (a + (r.2.2.1.length : Int) - a).toNat = r.2.2.1.length by omega]
    exact Crun_h _ _ _ _ h1 (f2 x s s0 (by
      have : s * 2 ^ 16 = s * 65536 := rfl
      omega))
  · obtain ⟨p', a1, a2, a3⟩ := f3 x p (n : Int) (by omega) (by omega) (fun j j0 j1 => by
      have y := hp j.toNat (by omega) (by omega)
      rw [Int.toNat_of_nonneg j0] at y
      exact y)
    refine ⟨p', ?_, a2, fun j hj => a3 j (by omega)⟩
    rw [show (ma + (r.2.2.2.length : Int) - ma).toNat = r.2.2.2.length by omega]
    exact Mrun_h _ _ _ _ _ _ h2 a1
