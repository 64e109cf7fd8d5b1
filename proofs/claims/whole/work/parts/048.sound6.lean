def xz : List (xMi × xMt × List Nat) := xmi.zip (ptX.zip xpl)
set_option maxRecDepth 100000 in
theorem xk_all : ∀ q ∈ xz, xchk q.1 q.2.1 q.2.2 = true := List.forall_mem_cons.mpr ⟨xk_0, List.forall_mem_cons.mpr ⟨xk_1, List.forall_mem_cons.mpr ⟨xk_2, List.forall_mem_cons.mpr ⟨xk_3, List.forall_mem_cons.mpr ⟨xk_4, List.forall_mem_cons.mpr ⟨xk_5, List.forall_mem_cons.mpr ⟨xk_6, List.forall_mem_cons.mpr ⟨xk_7, List.forall_mem_cons.mpr ⟨xk_8, List.forall_mem_cons.mpr ⟨xk_9, List.forall_mem_cons.mpr ⟨xk_10, List.forall_mem_cons.mpr ⟨xk_11, List.forall_mem_cons.mpr ⟨xk_12, List.forall_mem_cons.mpr ⟨xk_13, List.forall_mem_cons.mpr ⟨xk_14, List.forall_mem_cons.mpr ⟨xk_15, List.forall_mem_cons.mpr ⟨xk_16, List.forall_mem_cons.mpr ⟨xk_17, List.forall_mem_cons.mpr ⟨xk_18, List.forall_mem_cons.mpr ⟨xk_19, List.forall_mem_cons.mpr ⟨xk_20, List.forall_mem_cons.mpr ⟨xk_21, List.forall_mem_cons.mpr ⟨xk_22, List.forall_mem_cons.mpr ⟨xk_23, List.forall_mem_cons.mpr ⟨xk_24, List.forall_mem_cons.mpr ⟨xk_25, List.forall_mem_cons.mpr ⟨xk_26, List.forall_mem_cons.mpr ⟨xk_27, List.forall_mem_cons.mpr ⟨xk_28, List.forall_mem_cons.mpr ⟨xk_29, List.forall_mem_cons.mpr ⟨xk_30, List.forall_mem_cons.mpr ⟨xk_31, List.forall_mem_cons.mpr ⟨xk_32, List.forall_mem_cons.mpr ⟨xk_33, List.forall_mem_cons.mpr ⟨xk_34, List.forall_mem_cons.mpr ⟨xk_35, List.forall_mem_cons.mpr ⟨xk_36, List.forall_mem_cons.mpr ⟨xk_37, List.forall_mem_cons.mpr ⟨xk_38, List.forall_mem_cons.mpr ⟨xk_39, List.forall_mem_cons.mpr ⟨xk_40, List.forall_mem_cons.mpr ⟨xk_41, List.forall_mem_cons.mpr ⟨xk_42, List.forall_mem_cons.mpr ⟨xk_43, List.forall_mem_cons.mpr ⟨xk_44, List.forall_mem_cons.mpr ⟨xk_45, List.forall_mem_cons.mpr ⟨xk_46, List.forall_mem_cons.mpr ⟨xk_47, List.forall_mem_cons.mpr ⟨xk_48, List.forall_mem_cons.mpr ⟨xk_49, List.forall_mem_cons.mpr ⟨xk_50, List.forall_mem_cons.mpr ⟨xk_51, List.forall_mem_cons.mpr ⟨xk_52, List.forall_mem_cons.mpr ⟨xk_53, List.forall_mem_cons.mpr ⟨xk_54, List.forall_mem_cons.mpr ⟨xk_55, List.forall_mem_cons.mpr ⟨xk_56, List.forall_mem_cons.mpr ⟨xk_57, List.forall_mem_cons.mpr ⟨xk_58, List.forall_mem_cons.mpr ⟨xk_59, List.forall_mem_cons.mpr ⟨xk_60, List.forall_mem_cons.mpr ⟨xk_61, List.forall_mem_cons.mpr ⟨xk_62, List.forall_mem_cons.mpr ⟨xk_63, List.forall_mem_cons.mpr ⟨xk_64, List.forall_mem_cons.mpr ⟨xk_65, List.forall_mem_cons.mpr ⟨xk_66, List.forall_mem_cons.mpr ⟨xk_67, List.forall_mem_cons.mpr ⟨xk_68, List.forall_mem_cons.mpr ⟨xk_69, List.forall_mem_cons.mpr ⟨xk_70, List.forall_mem_cons.mpr ⟨xk_71, List.forall_mem_cons.mpr ⟨xk_72, List.forall_mem_cons.mpr ⟨xk_73, List.forall_mem_cons.mpr ⟨xk_74, List.forall_mem_cons.mpr ⟨xk_75, List.forall_mem_cons.mpr ⟨xk_76, List.forall_mem_cons.mpr ⟨xk_77, List.forall_mem_cons.mpr ⟨xk_78, List.forall_mem_cons.mpr ⟨xk_79, List.forall_mem_cons.mpr ⟨xk_80, List.forall_mem_cons.mpr ⟨xk_81, List.forall_mem_cons.mpr ⟨xk_82, List.forall_mem_cons.mpr ⟨xk_83, List.forall_mem_cons.mpr ⟨xk_84, List.forall_mem_cons.mpr ⟨xk_85, List.forall_mem_cons.mpr ⟨xk_86, List.forall_mem_cons.mpr ⟨xk_87, List.forall_mem_cons.mpr ⟨xk_88, List.forall_mem_cons.mpr ⟨xk_89, List.forall_mem_cons.mpr ⟨xk_90, List.forall_mem_cons.mpr ⟨xk_91, List.forall_mem_cons.mpr ⟨xk_92, List.forall_mem_cons.mpr ⟨xk_93, List.forall_mem_cons.mpr ⟨xk_94, List.forall_mem_cons.mpr ⟨xk_95, List.forall_mem_cons.mpr ⟨xk_96, List.forall_mem_cons.mpr ⟨xk_97, List.forall_mem_cons.mpr ⟨xk_98, List.forall_mem_cons.mpr ⟨xk_99, List.forall_mem_cons.mpr ⟨xk_100, List.forall_mem_cons.mpr ⟨xk_101, List.forall_mem_cons.mpr ⟨xk_102, List.forall_mem_cons.mpr ⟨xk_103, List.forall_mem_cons.mpr ⟨xk_104, List.forall_mem_cons.mpr ⟨xk_105, List.forall_mem_cons.mpr ⟨xk_106, List.forall_mem_cons.mpr ⟨xk_107, List.forall_mem_cons.mpr ⟨xk_108, List.forall_mem_cons.mpr ⟨xk_109, List.forall_mem_cons.mpr ⟨xk_110, List.forall_mem_cons.mpr ⟨xk_111, List.forall_mem_cons.mpr ⟨xk_112, List.forall_mem_cons.mpr ⟨xk_113, List.forall_mem_cons.mpr ⟨xk_114, List.forall_mem_cons.mpr ⟨xk_115, List.forall_mem_cons.mpr ⟨xk_116, List.forall_mem_cons.mpr ⟨xk_117, List.forall_mem_cons.mpr ⟨xk_118, List.forall_mem_cons.mpr ⟨xk_119, List.forall_mem_cons.mpr ⟨xk_120, List.forall_mem_cons.mpr ⟨xk_121, List.forall_mem_cons.mpr ⟨xk_122, List.forall_mem_cons.mpr ⟨xk_123, List.forall_mem_cons.mpr ⟨xk_124, List.forall_mem_cons.mpr ⟨xk_125, List.forall_mem_cons.mpr ⟨xk_126, List.forall_mem_cons.mpr ⟨xk_127, List.forall_mem_cons.mpr ⟨xk_128, List.forall_mem_cons.mpr ⟨xk_129, List.forall_mem_cons.mpr ⟨xk_130, List.forall_mem_cons.mpr ⟨xk_131, List.forall_mem_cons.mpr ⟨xk_132, List.forall_mem_cons.mpr ⟨xk_133, List.forall_mem_cons.mpr ⟨xk_134, List.forall_mem_cons.mpr ⟨xk_135, List.forall_mem_cons.mpr ⟨xk_136, List.forall_mem_cons.mpr ⟨xk_137, List.forall_mem_cons.mpr ⟨xk_138, List.forall_mem_cons.mpr ⟨xk_139, List.forall_mem_cons.mpr ⟨xk_140, List.forall_mem_cons.mpr ⟨xk_141, List.forall_mem_cons.mpr ⟨xk_142, List.forall_mem_cons.mpr ⟨xk_143, List.forall_mem_cons.mpr ⟨xk_144, List.forall_mem_cons.mpr ⟨xk_145, List.forall_mem_cons.mpr ⟨xk_146, List.forall_mem_cons.mpr ⟨xk_147, List.forall_mem_cons.mpr ⟨xk_148, List.forall_mem_cons.mpr ⟨xk_149, List.forall_mem_cons.mpr ⟨xk_150, List.forall_mem_cons.mpr ⟨xk_151, List.forall_mem_cons.mpr ⟨xk_152, List.forall_mem_cons.mpr ⟨xk_153, List.forall_mem_cons.mpr ⟨xk_154, List.forall_mem_cons.mpr ⟨xk_155, List.forall_mem_cons.mpr ⟨xk_156, List.forall_mem_cons.mpr ⟨xk_157, List.forall_mem_cons.mpr ⟨xk_158, List.forall_mem_cons.mpr ⟨xk_159, List.forall_mem_cons.mpr ⟨xk_160, List.forall_mem_cons.mpr ⟨xk_161, List.forall_mem_cons.mpr ⟨xk_162, List.forall_mem_cons.mpr ⟨xk_163, List.forall_mem_cons.mpr ⟨xk_164, List.forall_mem_cons.mpr ⟨xk_165, List.forall_mem_cons.mpr ⟨xk_166, List.forall_mem_cons.mpr ⟨xk_167, List.forall_mem_cons.mpr ⟨xk_168, List.forall_mem_cons.mpr ⟨xk_169, List.forall_mem_cons.mpr ⟨xk_170, List.forall_mem_cons.mpr ⟨xk_171, List.forall_mem_cons.mpr ⟨xk_172, List.forall_mem_cons.mpr ⟨xk_173, List.forall_mem_cons.mpr ⟨xk_174, List.forall_mem_cons.mpr ⟨xk_175, List.forall_mem_cons.mpr ⟨xk_176, List.forall_mem_cons.mpr ⟨xk_177, List.forall_mem_cons.mpr ⟨xk_178, List.forall_mem_cons.mpr ⟨xk_179, List.forall_mem_cons.mpr ⟨xk_180, List.forall_mem_cons.mpr ⟨xk_181, List.forall_mem_cons.mpr ⟨xk_182, List.forall_mem_cons.mpr ⟨xk_183, List.forall_mem_cons.mpr ⟨xk_184, List.forall_mem_cons.mpr ⟨xk_185, List.forall_mem_cons.mpr ⟨xk_186, List.forall_mem_cons.mpr ⟨xk_187, List.forall_mem_cons.mpr ⟨xk_188, List.forall_mem_cons.mpr ⟨xk_189, List.forall_mem_cons.mpr ⟨xk_190, List.forall_mem_cons.mpr ⟨xk_191, List.forall_mem_cons.mpr ⟨xk_192, List.forall_mem_cons.mpr ⟨xk_193, List.forall_mem_cons.mpr ⟨xk_194, List.forall_mem_cons.mpr ⟨xk_195, List.forall_mem_cons.mpr ⟨xk_196, List.forall_mem_cons.mpr ⟨xk_197, List.forall_mem_cons.mpr ⟨xk_198, List.forall_mem_cons.mpr ⟨xk_199, List.forall_mem_cons.mpr ⟨xk_200, List.forall_mem_cons.mpr ⟨xk_201, List.forall_mem_cons.mpr ⟨xk_202, List.forall_mem_cons.mpr ⟨xk_203, List.forall_mem_cons.mpr ⟨xk_204, List.forall_mem_cons.mpr ⟨xk_205, List.forall_mem_cons.mpr ⟨xk_206, List.forall_mem_cons.mpr ⟨xk_207, List.forall_mem_cons.mpr ⟨xk_208, List.forall_mem_cons.mpr ⟨xk_209, List.forall_mem_cons.mpr ⟨xk_210, List.forall_mem_cons.mpr ⟨xk_211, List.forall_mem_cons.mpr ⟨xk_212, List.forall_mem_cons.mpr ⟨xk_213, List.forall_mem_cons.mpr ⟨xk_214, List.forall_mem_cons.mpr ⟨xk_215, List.forall_mem_cons.mpr ⟨xk_216, List.forall_mem_cons.mpr ⟨xk_217, List.forall_mem_cons.mpr ⟨xk_218, List.forall_mem_cons.mpr ⟨xk_219, List.forall_mem_cons.mpr ⟨xk_220, List.forall_mem_cons.mpr ⟨xk_221, List.forall_mem_cons.mpr ⟨xk_222, List.forall_mem_cons.mpr ⟨xk_223, List.forall_mem_cons.mpr ⟨xk_224, List.forall_mem_cons.mpr ⟨xk_225, List.forall_mem_cons.mpr ⟨xk_226, List.forall_mem_cons.mpr ⟨xk_227, List.forall_mem_cons.mpr ⟨xk_228, List.forall_mem_cons.mpr ⟨xk_229, List.forall_mem_cons.mpr ⟨xk_230, List.forall_mem_cons.mpr ⟨xk_231, List.forall_mem_cons.mpr ⟨xk_232, List.forall_mem_cons.mpr ⟨xk_233, List.forall_mem_cons.mpr ⟨xk_234, List.forall_mem_cons.mpr ⟨xk_235, List.forall_mem_cons.mpr ⟨xk_236, List.forall_mem_cons.mpr ⟨xk_237, List.forall_mem_cons.mpr ⟨xk_238, List.forall_mem_cons.mpr ⟨xk_239, List.forall_mem_cons.mpr ⟨xk_240, List.forall_mem_cons.mpr ⟨xk_241, List.forall_mem_cons.mpr ⟨xk_242, List.forall_mem_cons.mpr ⟨xk_243, List.forall_mem_cons.mpr ⟨xk_244, List.forall_mem_cons.mpr ⟨xk_245, List.forall_mem_cons.mpr ⟨xk_246, List.forall_mem_cons.mpr ⟨xk_247, List.forall_mem_cons.mpr ⟨xk_248, List.forall_mem_cons.mpr ⟨xk_249, List.forall_mem_cons.mpr ⟨xk_250, List.forall_mem_cons.mpr ⟨xk_251, List.forall_mem_cons.mpr ⟨xk_252, List.forall_mem_cons.mpr ⟨xk_253, List.forall_mem_cons.mpr ⟨xk_254, List.forall_mem_cons.mpr ⟨xk_255, List.forall_mem_cons.mpr ⟨xk_256, List.forall_mem_cons.mpr ⟨xk_257, List.forall_mem_cons.mpr ⟨xk_258, List.forall_mem_cons.mpr ⟨xk_259, List.forall_mem_cons.mpr ⟨xk_260, List.forall_mem_cons.mpr ⟨xk_261, List.forall_mem_cons.mpr ⟨xk_262, List.forall_mem_cons.mpr ⟨xk_263, List.forall_mem_cons.mpr ⟨xk_264, List.forall_mem_cons.mpr ⟨xk_265, List.forall_mem_cons.mpr ⟨xk_266, List.forall_mem_cons.mpr ⟨xk_267, List.forall_mem_cons.mpr ⟨xk_268, List.forall_mem_cons.mpr ⟨xk_269, fun _ h => absurd h List.not_mem_nil⟩⟩⟩⟩⟩⟩⟩⟩⟩⟩⟩⟩⟩⟩⟩⟩⟩⟩⟩⟩⟩⟩⟩⟩⟩⟩⟩⟩⟩⟩⟩⟩⟩⟩⟩⟩⟩⟩⟩⟩⟩⟩⟩⟩⟩⟩⟩⟩⟩⟩⟩⟩⟩⟩⟩⟩⟩⟩⟩⟩⟩⟩⟩⟩⟩⟩⟩⟩⟩⟩⟩⟩⟩⟩⟩⟩⟩⟩⟩⟩⟩⟩⟩⟩⟩⟩⟩⟩⟩⟩⟩⟩⟩⟩⟩⟩⟩⟩⟩⟩⟩⟩⟩⟩⟩⟩⟩⟩⟩⟩⟩⟩⟩⟩⟩⟩⟩⟩⟩⟩⟩⟩⟩⟩⟩⟩⟩⟩⟩⟩⟩⟩⟩⟩⟩⟩⟩⟩⟩⟩⟩⟩⟩⟩⟩⟩⟩⟩⟩⟩⟩⟩⟩⟩⟩⟩⟩⟩⟩⟩⟩⟩⟩⟩⟩⟩⟩⟩⟩⟩⟩⟩⟩⟩⟩⟩⟩⟩⟩⟩⟩⟩⟩⟩⟩⟩⟩⟩⟩⟩⟩⟩⟩⟩⟩⟩⟩⟩⟩⟩⟩⟩⟩⟩⟩⟩⟩⟩⟩⟩⟩⟩⟩⟩⟩⟩⟩⟩⟩⟩⟩⟩⟩⟩⟩⟩⟩⟩⟩⟩⟩⟩⟩⟩⟩⟩⟩⟩⟩⟩⟩⟩⟩⟩⟩⟩⟩⟩⟩⟩⟩⟩⟩⟩⟩⟩⟩⟩⟩⟩⟩⟩⟩⟩⟩⟩⟩⟩⟩⟩
theorem xpl_len : xpl.length = 270 := by decide +kernel
theorem xk_at {j : Nat} {y : xMi} (hy : xat xmi j = some y) : ∃ mt pl, xat ptX j = some mt ∧ xchk y mt pl = true := by
  rw [xat_get] at hy
  have hj : j < 270 := by
    have := (List.getElem?_eq_some_iff.mp hy).1
    rw [xk_len.1] at this
    exact this
  have hl : j < ptX.length := by rw [xk_len.2]; exact hj
  have hp : j < xpl.length := by rw [xpl_len]; exact hj
  obtain ⟨mt, hm⟩ : ∃ mt, ptX[j]? = some mt := by
    cases e : ptX[j]? with
    | some mt => exact ⟨mt, rfl⟩
    | none => exact absurd (List.getElem?_eq_none_iff.mp e) (by omega)
  obtain ⟨pl, hp2⟩ : ∃ pl, xpl[j]? = some pl := by
    cases e : xpl[j]? with
    | some pl => exact ⟨pl, rfl⟩
    | none => exact absurd (List.getElem?_eq_none_iff.mp e) (by omega)
  refine ⟨mt, pl, by rw [xat_get]; exact hm, ?_⟩
  have hz : (ptX.zip xpl)[j]? = some (mt, pl) := List.getElem?_zip_eq_some.mpr ⟨hm, hp2⟩
  have hz2 : xz[j]? = some (y, mt, pl) := List.getElem?_zip_eq_some.mpr ⟨hy, hz⟩
  exact xk_all _ (List.mem_of_getElem? hz2)
theorem xk_ok {j : Nat} {y : xMi} (hy : xat xmi j = some y) : xmOK y ∧ plainName y.1.cls = true ∧ ∃ mt, xat ptX j = some mt ∧ xtok y.1.cls y.2.2.2.1 y.2.1 y.2.2.1 mt.1 ∧ mt.2.1 = y.2.2.1 ∧ mt.2.2 = y.2.2.2.2.2 := by
  obtain ⟨mt, pl, hm, hc⟩ := xk_at hy
  obtain ⟨h1, hc⟩ := xand hc
  unfold xchk1 at h1
  unfold xchk2 at hc
  obtain ⟨h2, hc⟩ := xand hc
  obtain ⟨h3, hc⟩ := xand hc
  obtain ⟨h4, hc⟩ := xand hc
  obtain ⟨h5, hc⟩ := xand hc
  obtain ⟨h6, hc⟩ := xand hc
  obtain ⟨h7, hc⟩ := xand hc
  obtain ⟨h8, hc⟩ := xand hc
  obtain ⟨h9, h10⟩ := xand hc
  refine ⟨⟨xinq_mem h5, xdec h6, xdec h7, xinq_mem h8, ?_, xdec h10⟩, h4, mt, hm, fun row hr q hq => List.all_eq_true.mp (List.all_eq_true.mp h1 row hr) q hq, xdec h2, xdec h3⟩
  by_cases e : y.2.2.2.2.1 = true
  · rw [if_pos e] at h9 ⊢
    exact xinq_mem h9
  · rw [if_neg e] at h9 ⊢
    exact ⟨xinq_mem (xand h9).1, xinq_mem (xand h9).2⟩
def xrm (d : Nat) : Room := { frames := d + 1, cells := 0, slots := 0, locals := 60 * (d + 1) }
theorem xrm_R (d : Nat) : xRm (xrm (d + 1)) (xrm d) := ⟨rfl, rfl, Nat.le_refl _, by simp only [xrm]; omega⟩
theorem xM_no (cts : Nat → List (Nat × List Bool)) (d : Nat) (as : List xV) (h : xH) : xM XX ptX cts d 9999 as h = none := by
  cases d with
  | zero => rfl
  | succ d =>
    have e : xat ptX 9999 = none := by
      rw [xat_get]
      exact List.getElem?_eq_none (by rw [xk_len.2]; exact Nat.le_of_ble_eq_true rfl)
    simp only [xM, e]
theorem xent_len {G : xG} (hov : (gov G).category = 1) : ∀ as : List xV, (lg_sl (as.map (xcv G))).length = (xent as).length := by
  intro as
  induction as with
  | nil => rfl
  | cons v as ih =>
    rw [List.map_cons]
    rcases v with x | x | ⟨t, o⟩
    · simp only [lg_sl, List.flatMap_cons, List.length_append, xent, List.length_cons] at ih ⊢
      rw [ih]
      simp [xcv, Value.category]
      omega
    · simp only [lg_sl, List.flatMap_cons, List.length_append, xent, List.length_cons] at ih ⊢
      rw [ih]
      simp [xcv, Value.category]
      omega
    · have hc : ¬ (xcv G (.inr (.inr (t, o)))).category = 2 := by
        intro q
        obtain ⟨x, e⟩ := xcv_cat hov q
        cases e
      simp only [lg_sl, List.flatMap_cons, List.length_append, xent, List.length_cons] at ih ⊢
      rw [ih, if_neg hc]
      simp
      omega
theorem xget_pad : ∀ (n : Nat) (l : List (Option xV)) (i : Nat) (v : xV), xget (xpad n l) i = some v → xget l i = some v := by
  intro n
  induction n with
  | zero => intro l i v h; cases l <;> cases h
  | succ n ih =>
    intro l i v h
    cases l with
    | nil =>
      cases i with
      | zero => cases h
      | succ i => exact absurd (ih [] i v h) (by intro q; cases q)
    | cons a l =>
      cases i with
      | zero => exact h
      | succ i => exact ih l i v h
theorem xent_args {G : xG} (hov : (gov G).category = 1) : ∀ (as : List xV) (k i : Nat) (v : xV), xget (xent as) i = some v → (k + i, xcv G v) ∈ lv_args k (as.map (xcv G)) ∧ v ∈ as := by
  intro as
  induction as with
  | nil => intro k i v h; cases h
  | cons a as ih =>
    intro k i v h
    have one : ∀ a', xent (a' :: as) = some a' :: xent as → a = a' → ¬ (xcv G a).category = 2 → (k + i, xcv G v) ∈ lv_args k ((a :: as).map (xcv G)) ∧ v ∈ a :: as := by
      intro a' e ea hc
      subst ea
      rw [e] at h
      rw [List.map_cons, lv_args, if_neg hc]
      cases i with
      | zero =>
        cases h
        exact ⟨List.mem_cons_self, List.mem_cons_self⟩
      | succ i =>
        obtain ⟨g1, g2⟩ := ih (k + 1) i v h
        rw [show k + 1 + i = k + (i + 1) by omega] at g1
        exact ⟨List.mem_cons_of_mem _ g1, List.mem_cons_of_mem _ g2⟩
    rcases a with x | x | ⟨t, o⟩
    · exact one _ rfl rfl (by intro q; cases q)
    · rw [List.map_cons, lv_args, if_pos (show (xcv G (.inr (.inl x))).category = 2 from rfl)]
      match i, h with
      | 0, h =>
        cases h
        exact ⟨List.mem_cons_self, List.mem_cons_self⟩
      | 1, h => cases h
      | i + 2, h =>
        obtain ⟨g1, g2⟩ := ih (k + 2) i v h
        rw [show k + 2 + i = k + (i + 2) by omega] at g1
        exact ⟨List.mem_cons_of_mem _ g1, List.mem_cons_of_mem _ g2⟩
    · exact one _ rfl rfl (by
        intro q
        obtain ⟨x, e⟩ := xcv_cat hov q
        cases e)
set_option maxHeartbeats 1000000 in
/-- WHAT THE PURE MACHINE ANSWERS, THE MACHINE ANSWERS -/
theorem xM_sound (cts : Nat → List (Nat × List Bool)) (l : Launch) {G : xG} {lo n : Nat} {tg : List Nat} (hG : xGo G lo n tg) : ∀ (d j : Nat) (y : xMi), xat xmi j = some y → ∀ (as : List xV) (h : xH) (v : Int32) (h' : xH), xM XX ptX cts d j as h = some (v, h') → xoks lo n as → xMet l G lo n tg (xrm d) y as h v h' := by
  intro d
  induction d with
  | zero => intro j y _ as h v h' hk; cases hk
  | succ d ih =>
    intro j y hy as h v h' hk hok
    obtain ⟨hmo, hpl, mt, hmt, htok, hnl, hac⟩ := xk_ok hy
    have hk : (match xat ptX j with
      | none => none
      | some mt => xgd (Nat.beq as.length mt.2.2 && Nat.ble (xent as).length mt.2.1) (xev XX mt.1 (cts j) (xM XX ptX cts d) xF 0 (xpad mt.2.1 (xent as)) [] h)) = some (v, h') := hk
    rw [hmt] at hk
    obtain ⟨hg, hk⟩ := xgd_i hk
    obtain ⟨-, hg⟩ := xand hg
    have hlen : (xent as).length ≤ y.2.2.1 := by
      rw [← hnl]
      exact Nat.le_of_ble_eq_true hg
    rw [hnl] at hk
    refine Met.ofW (cc := y.2.1) (maxL := y.2.2.1) (ret := y.2.2.2.1) hpl rfl ?_
    intro p e s m args below meth c s₁ B hml hv
    obtain ⟨rfl, hP, hK, hBg⟩ := hv
    have hx := B.exec
    have hb := B.bytes
    have hr := B.returns
    have hts0 := atoms_spec (ws := xWs y) B.pre
    have hts : ∀ w ∈ xTs, w.before (as.map (xcv G)).toArray s = true := fun w hw => hts0 w (List.mem_cons_of_mem _ hw)
    have hown : s.vm.findClass y.1.cls = some m.cls := findClass_of_methodNamed B.named
    have hlocks := B.notSynchronized
    have hlg : (lg_sl (as.map (xcv G))).length ≤ y.2.2.1 := by rw [xent_len hG.2.1]; exact hlen
    have hl := lv_entry (as.map (xcv G)) hlg
    rw [lg_entry_eq]
    have hL : xls G y.2.2.1 (lg_sl (as.map (xcv G)) ++ List.replicate (y.2.2.1 - (lg_sl (as.map (xcv G))).length) Slot.unset).toArray (xpad y.2.2.1 (xent as)) := by
      refine ⟨hl.1, hl.2.1, fun i v hi => ?_⟩
      have h1 := (xent_args hG.2.1 as 0 i v (xget_pad _ _ i v hi)).1
      rw [Nat.zero_add] at h1
      exact hl.2.2 _ h1
    have Cx : xCx p (xrm (d + 1)) s m (as.map (xcv G)).toArray c y.1.cls y.2.1 y.2.2.1 G lo n tg := ⟨hx, hb, hml, hown, hts, hK, hBg, hG, by simp only [xrm]; omega, by simp only [xrm]; omega⟩
    have hE : xEnds y.2.2.2.1 y.2.1 p l e (xrm (d + 1)) s m (as.map (xcv G)).toArray below meth c G lo n (MQ below (xPost G lo n y.2.2.2.1 v h') (as.map (xcv G)).toArray s 0 0 (xA G lo n)) (v, h') := by
      refine ⟨fun ty e1 e2 pc H locs lsA hd hP1 hS1 => ?_, fun e1 pc H locs lsA hd hP1 hS1 => ?_⟩
      · rw [e1] at hr ⊢
        exact W.zret (v := v) hx hb hr e2 (fun t ht _ => ⟨⟨v, (), rfl, rfl, by show va_P (gD G) clX (xwd G lo n h') t.heap; rw [ht]; exact hP1⟩, hS1.F ht⟩) hS1.2.2 hd
      · rw [e1] at hr ⊢
        exact W.vret hx hb hr (fun t ht _ => ⟨⟨(), rfl, trivial, by show va_P (gD G) clX (xwd G lo n h') t.heap; rw [ht]; exact hP1⟩, hS1.F ht⟩) hS1.2.2 hd
    have hJ := xev_J (rm := xrm d) Cx htok (fun j y hy as h v h' hk hok => ih j y hy as h v h' hk hok) (xM_no cts d) (xrm_R d) (fun j y hy => (xk_ok hy).1) hE xF 0 _ _ _ hk
    refine hJ s.heap [] _ (fun i v hi => ?_) (fun v hv => by cases hv) hP va_S.rf hL
    exact hok v (xent_args hG.2.1 as 0 i v (xget_pad _ _ i v hi)).2

