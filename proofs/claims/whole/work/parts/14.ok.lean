noncomputable def ttL : List (List gx_I) := [tt_0, tt_1, tt_2, tt_3, tt_4, tt_5, tt_6, tt_7, tt_8, tt_9, tt_10, tt_11, tt_12, tt_13, tt_14, tt_15, tt_16, tt_17, tt_18, tt_19, tt_20, tt_21, tt_22, tt_23, tt_24, tt_25, tt_26, tt_27, tt_28, tt_29, tt_30, tt_31, tt_32, tt_33, tt_34, tt_35, tt_36, tt_37, tt_38, tt_39, tt_40, tt_41, tt_42, tt_43, tt_44, tt_45, tt_46, tt_47, tt_48, tt_49, tt_50, tt_51, tt_52, tt_53, tt_54, tt_55, tt_56, tt_57, tt_58, tt_59, tt_60, tt_61, tt_62, tt_63, tt_64, tt_65, tt_66, tt_67, tt_68, tt_69, tt_70, tt_71, tt_72, tt_73, tt_74, tt_75, tt_76, tt_77, tt_78, tt_79, tt_80, tt_81, tt_82, tt_83, tt_84, tt_85, tt_86, tt_87, tt_88, tt_89, tt_90, tt_91, tt_92, tt_93, tt_94, tt_95, tt_96, tt_97, tt_98, tt_99, tt_100, tt_101, tt_102, tt_103, tt_104, tt_105, tt_106, tt_107, tt_108, tt_109, tt_110, tt_111, tt_112, tt_113, tt_114, tt_115, tt_116, tt_117, tt_118, tt_119, tt_120, tt_121, tt_122, tt_123, tt_124, tt_125, tt_126, tt_127, tt_128, tt_129, tt_130, tt_131, tt_132, tt_133, tt_134, tt_135, tt_136, tt_137, tt_138, tt_139, tt_140, tt_141, tt_142, tt_143, tt_144, tt_145, tt_146, tt_147, tt_148, tt_149, tt_150, tt_151, tt_152, tt_153, tt_154, tt_155, tt_156, tt_157, tt_158, tt_159, tt_160, tt_161, tt_162, tt_163, tt_164, tt_165, tt_166, tt_167, tt_168, tt_169, tt_170, tt_171, tt_172, tt_173, tt_174, tt_175, tt_176, tt_177, tt_178, tt_179, tt_180, tt_181, tt_182, tt_183, tt_184, tt_185, tt_186, tt_187, tt_188, tt_189, tt_190, tt_191, tt_192, tt_193, tt_194, tt_195, tt_196, tt_197, tt_198, tt_199, tt_200, tt_201, tt_202, tt_203, tt_204, tt_205, tt_206, tt_207, tt_208, tt_209, tt_210, tt_211, tt_212, tt_213, tt_214, tt_215, tt_216, tt_217, tt_218, tt_219, tt_220, tt_221, tt_222, tt_223, tt_224, tt_225, tt_226, tt_227, tt_228, tt_229, tt_230, tt_231, tt_232, tt_233, tt_234, tt_235, tt_236, tt_237, tt_238, tt_239, tt_240, tt_241, tt_242, tt_243, tt_244, tt_245, tt_246, tt_247, tt_248, tt_249, tt_250, tt_251, tt_252, tt_253, tt_254, tt_255, tt_256, tt_257, tt_258, tt_259, tt_260, tt_261, tt_262, tt_263, tt_264, tt_265, tt_266, tt_267, tt_268, tt_269, tt_270]
noncomputable def TT0 : Nat → List gx_I := fun i => match gx_nth ttL i with | some t => t | none => []
def gx_okA (K : gx_K) (nm : Nat → String) : List (List gx_I) → List gx_M → Prop
  | [], _ => True
  | t :: ts, q :: qs => gx_okm K nm t q ∧ gx_okA K nm ts qs
  | _, _ => False
theorem gx_okA_at {K : gx_K} {nm : Nat → String} : ∀ {ts : List (List gx_I)} {qs : List gx_M} {i : Nat} {t : List gx_I}, gx_okA K nm ts qs → ts[i]? = some t → ∃ q, qs[i]? = some q ∧ gx_okm K nm t q := by
  intro ts
  induction ts with
  | nil => intro qs i t _ h; simp at h
  | cons a u ih =>
    intro qs i t h hi
    cases qs with
    | nil => exact h.elim
    | cons b w =>
      cases i with
      | zero =>
        simp at hi
        subst hi
        exact ⟨b, rfl, h.1⟩
      | succ j =>
        obtain ⟨q, h1, h2⟩ := ih (qs := w) (i := j) h.2 (by simpa using hi)
        exact ⟨q, by simpa using h1, h2⟩
set_option maxRecDepth 20000 in
theorem okA0 : gx_okA K0 nm0 ttL qqL := ⟨ok_0, ⟨ok_1, ⟨ok_2, ⟨ok_3, ⟨ok_4, ⟨ok_5, ⟨ok_6, ⟨ok_7, ⟨ok_8, ⟨ok_9, ⟨ok_10, ⟨ok_11, ⟨ok_12, ⟨ok_13, ⟨ok_14, ⟨ok_15, ⟨ok_16, ⟨ok_17, ⟨ok_18, ⟨ok_19, ⟨ok_20, ⟨ok_21, ⟨ok_22, ⟨ok_23, ⟨ok_24, ⟨ok_25, ⟨ok_26, ⟨ok_27, ⟨ok_28, ⟨ok_29, ⟨ok_30, ⟨ok_31, ⟨ok_32, ⟨ok_33, ⟨ok_34, ⟨ok_35, ⟨ok_36, ⟨ok_37, ⟨ok_38, ⟨ok_39, ⟨ok_40, ⟨ok_41, ⟨ok_42, ⟨ok_43, ⟨ok_44, ⟨ok_45, ⟨ok_46, ⟨ok_47, ⟨ok_48, ⟨ok_49, ⟨ok_50, ⟨ok_51, ⟨ok_52, ⟨ok_53, ⟨ok_54, ⟨ok_55, ⟨ok_56, ⟨ok_57, ⟨ok_58, ⟨ok_59, ⟨ok_60, ⟨ok_61, ⟨ok_62, ⟨ok_63, ⟨ok_64, ⟨ok_65, ⟨ok_66, ⟨ok_67, ⟨ok_68, ⟨ok_69, ⟨ok_70, ⟨ok_71, ⟨ok_72, ⟨ok_73, ⟨ok_74, ⟨ok_75, ⟨ok_76, ⟨ok_77, ⟨ok_78, ⟨ok_79, ⟨ok_80, ⟨ok_81, ⟨ok_82, ⟨ok_83, ⟨ok_84, ⟨ok_85, ⟨ok_86, ⟨ok_87, ⟨ok_88, ⟨ok_89, ⟨ok_90, ⟨ok_91, ⟨ok_92, ⟨ok_93, ⟨ok_94, ⟨ok_95, ⟨ok_96, ⟨ok_97, ⟨ok_98, ⟨ok_99, ⟨ok_100, ⟨ok_101, ⟨ok_102, ⟨ok_103, ⟨ok_104, ⟨ok_105, ⟨ok_106, ⟨ok_107, ⟨ok_108, ⟨ok_109, ⟨ok_110, ⟨ok_111, ⟨ok_112, ⟨ok_113, ⟨ok_114, ⟨ok_115, ⟨ok_116, ⟨ok_117, ⟨ok_118, ⟨ok_119, ⟨ok_120, ⟨ok_121, ⟨ok_122, ⟨ok_123, ⟨ok_124, ⟨ok_125, ⟨ok_126, ⟨ok_127, ⟨ok_128, ⟨ok_129, ⟨ok_130, ⟨ok_131, ⟨ok_132, ⟨ok_133, ⟨ok_134, ⟨ok_135, ⟨ok_136, ⟨ok_137, ⟨ok_138, ⟨ok_139, ⟨ok_140, ⟨ok_141, ⟨ok_142, ⟨ok_143, ⟨ok_144, ⟨ok_145, ⟨ok_146, ⟨ok_147, ⟨ok_148, ⟨ok_149, ⟨ok_150, ⟨ok_151, ⟨ok_152, ⟨ok_153, ⟨ok_154, ⟨ok_155, ⟨ok_156, ⟨ok_157, ⟨ok_158, ⟨ok_159, ⟨ok_160, ⟨ok_161, ⟨ok_162, ⟨ok_163, ⟨ok_164, ⟨ok_165, ⟨ok_166, ⟨ok_167, ⟨ok_168, ⟨ok_169, ⟨ok_170, ⟨ok_171, ⟨ok_172, ⟨ok_173, ⟨ok_174, ⟨ok_175, ⟨ok_176, ⟨ok_177, ⟨ok_178, ⟨ok_179, ⟨ok_180, ⟨ok_181, ⟨ok_182, ⟨ok_183, ⟨ok_184, ⟨ok_185, ⟨ok_186, ⟨ok_187, ⟨ok_188, ⟨ok_189, ⟨ok_190, ⟨ok_191, ⟨ok_192, ⟨ok_193, ⟨ok_194, ⟨ok_195, ⟨ok_196, ⟨ok_197, ⟨ok_198, ⟨ok_199, ⟨ok_200, ⟨ok_201, ⟨ok_202, ⟨ok_203, ⟨ok_204, ⟨ok_205, ⟨ok_206, ⟨ok_207, ⟨ok_208, ⟨ok_209, ⟨ok_210, ⟨ok_211, ⟨ok_212, ⟨ok_213, ⟨ok_214, ⟨ok_215, ⟨ok_216, ⟨ok_217, ⟨ok_218, ⟨ok_219, ⟨ok_220, ⟨ok_221, ⟨ok_222, ⟨ok_223, ⟨ok_224, ⟨ok_225, ⟨ok_226, ⟨ok_227, ⟨ok_228, ⟨ok_229, ⟨ok_230, ⟨ok_231, ⟨ok_232, ⟨ok_233, ⟨ok_234, ⟨ok_235, ⟨ok_236, ⟨ok_237, ⟨ok_238, ⟨ok_239, ⟨ok_240, ⟨ok_241, ⟨ok_242, ⟨ok_243, ⟨ok_244, ⟨ok_245, ⟨ok_246, ⟨ok_247, ⟨ok_248, ⟨ok_249, ⟨ok_250, ⟨ok_251, ⟨ok_252, ⟨ok_253, ⟨ok_254, ⟨ok_255, ⟨ok_256, ⟨ok_257, ⟨ok_258, ⟨ok_259, ⟨ok_260, ⟨ok_261, ⟨ok_262, ⟨ok_263, ⟨ok_264, ⟨ok_265, ⟨ok_266, ⟨ok_267, ⟨ok_268, ⟨ok_269, ⟨ok_270, trivial⟩⟩⟩⟩⟩⟩⟩⟩⟩⟩⟩⟩⟩⟩⟩⟩⟩⟩⟩⟩⟩⟩⟩⟩⟩⟩⟩⟩⟩⟩⟩⟩⟩⟩⟩⟩⟩⟩⟩⟩⟩⟩⟩⟩⟩⟩⟩⟩⟩⟩⟩⟩⟩⟩⟩⟩⟩⟩⟩⟩⟩⟩⟩⟩⟩⟩⟩⟩⟩⟩⟩⟩⟩⟩⟩⟩⟩⟩⟩⟩⟩⟩⟩⟩⟩⟩⟩⟩⟩⟩⟩⟩⟩⟩⟩⟩⟩⟩⟩⟩⟩⟩⟩⟩⟩⟩⟩⟩⟩⟩⟩⟩⟩⟩⟩⟩⟩⟩⟩⟩⟩⟩⟩⟩⟩⟩⟩⟩⟩⟩⟩⟩⟩⟩⟩⟩⟩⟩⟩⟩⟩⟩⟩⟩⟩⟩⟩⟩⟩⟩⟩⟩⟩⟩⟩⟩⟩⟩⟩⟩⟩⟩⟩⟩⟩⟩⟩⟩⟩⟩⟩⟩⟩⟩⟩⟩⟩⟩⟩⟩⟩⟩⟩⟩⟩⟩⟩⟩⟩⟩⟩⟩⟩⟩⟩⟩⟩⟩⟩⟩⟩⟩⟩⟩⟩⟩⟩⟩⟩⟩⟩⟩⟩⟩⟩⟩⟩⟩⟩⟩⟩⟩⟩⟩⟩⟩⟩⟩⟩⟩⟩⟩⟩⟩⟩⟩⟩⟩⟩⟩⟩⟩⟩⟩⟩⟩⟩⟩⟩⟩⟩⟩⟩⟩⟩⟩⟩⟩⟩⟩⟩⟩⟩⟩⟩⟩⟩⟩⟩⟩⟩
theorem ok0 : ∀ mi, gx_okm K0 nm0 (TT0 mi) (mt0 mi) := by
  intro mi
  cases h : gx_nth ttL mi with
  | none => rw [TT0, h]; exact Or.inl rfl
  | some t =>
    obtain ⟨q, h1, h2⟩ := gx_okA_at okA0 (by rw [← gx_nth_eq]; exact h)
    rw [TT0, h, mt0, gx_nth_eq, h1]
    exact h2
