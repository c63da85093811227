/-! All of it. -/
theorem zpk1_0 : ∀ q ∈ zpr_0, zmck zowns zpool q = true := List.forall_mem_cons.mpr ⟨zmk_0, List.forall_mem_cons.mpr ⟨zmk_1, List.forall_mem_cons.mpr ⟨zmk_2, List.forall_mem_cons.mpr ⟨zmk_3, List.forall_mem_cons.mpr ⟨zmk_4, List.forall_mem_cons.mpr ⟨zmk_5, List.forall_mem_cons.mpr ⟨zmk_6, List.forall_mem_cons.mpr ⟨zmk_7, List.forall_mem_cons.mpr ⟨zmk_8, List.forall_mem_cons.mpr ⟨zmk_9, List.forall_mem_cons.mpr ⟨zmk_10, List.forall_mem_cons.mpr ⟨zmk_11, List.forall_mem_cons.mpr ⟨zmk_12, List.forall_mem_cons.mpr ⟨zmk_13, List.forall_mem_cons.mpr ⟨zmk_14, List.forall_mem_cons.mpr ⟨zmk_15, List.forall_mem_cons.mpr ⟨zmk_16, List.forall_mem_cons.mpr ⟨zmk_17, List.forall_mem_cons.mpr ⟨zmk_18, List.forall_mem_cons.mpr ⟨zmk_19, fun _ h => absurd h List.not_mem_nil⟩⟩⟩⟩⟩⟩⟩⟩⟩⟩⟩⟩⟩⟩⟩⟩⟩⟩⟩⟩
theorem zpk1_1 : ∀ q ∈ zpr_1, zmck zowns zpool q = true := List.forall_mem_cons.mpr ⟨zmk_20, List.forall_mem_cons.mpr ⟨zmk_21, List.forall_mem_cons.mpr ⟨zmk_22, List.forall_mem_cons.mpr ⟨zmk_23, List.forall_mem_cons.mpr ⟨zmk_24, List.forall_mem_cons.mpr ⟨zmk_25, List.forall_mem_cons.mpr ⟨zmk_26, List.forall_mem_cons.mpr ⟨zmk_27, List.forall_mem_cons.mpr ⟨zmk_28, List.forall_mem_cons.mpr ⟨zmk_29, List.forall_mem_cons.mpr ⟨zmk_30, List.forall_mem_cons.mpr ⟨zmk_31, List.forall_mem_cons.mpr ⟨zmk_32, List.forall_mem_cons.mpr ⟨zmk_33, List.forall_mem_cons.mpr ⟨zmk_34, List.forall_mem_cons.mpr ⟨zmk_35, List.forall_mem_cons.mpr ⟨zmk_36, List.forall_mem_cons.mpr ⟨zmk_37, List.forall_mem_cons.mpr ⟨zmk_38, List.forall_mem_cons.mpr ⟨zmk_39, fun _ h => absurd h List.not_mem_nil⟩⟩⟩⟩⟩⟩⟩⟩⟩⟩⟩⟩⟩⟩⟩⟩⟩⟩⟩⟩
theorem zpk1_2 : ∀ q ∈ zpr_2, zmck zowns zpool q = true := List.forall_mem_cons.mpr ⟨zmk_40, List.forall_mem_cons.mpr ⟨zmk_41, List.forall_mem_cons.mpr ⟨zmk_42, List.forall_mem_cons.mpr ⟨zmk_43, List.forall_mem_cons.mpr ⟨zmk_44, List.forall_mem_cons.mpr ⟨zmk_45, List.forall_mem_cons.mpr ⟨zmk_46, List.forall_mem_cons.mpr ⟨zmk_47, List.forall_mem_cons.mpr ⟨zmk_48, List.forall_mem_cons.mpr ⟨zmk_49, List.forall_mem_cons.mpr ⟨zmk_50, List.forall_mem_cons.mpr ⟨zmk_51, List.forall_mem_cons.mpr ⟨zmk_52, List.forall_mem_cons.mpr ⟨zmk_53, List.forall_mem_cons.mpr ⟨zmk_54, List.forall_mem_cons.mpr ⟨zmk_55, List.forall_mem_cons.mpr ⟨zmk_56, List.forall_mem_cons.mpr ⟨zmk_57, List.forall_mem_cons.mpr ⟨zmk_58, List.forall_mem_cons.mpr ⟨zmk_59, fun _ h => absurd h List.not_mem_nil⟩⟩⟩⟩⟩⟩⟩⟩⟩⟩⟩⟩⟩⟩⟩⟩⟩⟩⟩⟩
theorem zpk1_3 : ∀ q ∈ zpr_3, zmck zowns zpool q = true := List.forall_mem_cons.mpr ⟨zmk_60, List.forall_mem_cons.mpr ⟨zmk_61, List.forall_mem_cons.mpr ⟨zmk_62, List.forall_mem_cons.mpr ⟨zmk_63, List.forall_mem_cons.mpr ⟨zmk_64, List.forall_mem_cons.mpr ⟨zmk_65, List.forall_mem_cons.mpr ⟨zmk_66, List.forall_mem_cons.mpr ⟨zmk_67, List.forall_mem_cons.mpr ⟨zmk_68, List.forall_mem_cons.mpr ⟨zmk_69, List.forall_mem_cons.mpr ⟨zmk_70, List.forall_mem_cons.mpr ⟨zmk_71, List.forall_mem_cons.mpr ⟨zmk_72, List.forall_mem_cons.mpr ⟨zmk_73, List.forall_mem_cons.mpr ⟨zmk_74, List.forall_mem_cons.mpr ⟨zmk_75, List.forall_mem_cons.mpr ⟨zmk_76, List.forall_mem_cons.mpr ⟨zmk_77, List.forall_mem_cons.mpr ⟨zmk_78, List.forall_mem_cons.mpr ⟨zmk_79, fun _ h => absurd h List.not_mem_nil⟩⟩⟩⟩⟩⟩⟩⟩⟩⟩⟩⟩⟩⟩⟩⟩⟩⟩⟩⟩
theorem zpk1_4 : ∀ q ∈ zpr_4, zmck zowns zpool q = true := List.forall_mem_cons.mpr ⟨zmk_80, List.forall_mem_cons.mpr ⟨zmk_81, List.forall_mem_cons.mpr ⟨zmk_82, List.forall_mem_cons.mpr ⟨zmk_83, List.forall_mem_cons.mpr ⟨zmk_84, List.forall_mem_cons.mpr ⟨zmk_85, List.forall_mem_cons.mpr ⟨zmk_86, List.forall_mem_cons.mpr ⟨zmk_87, List.forall_mem_cons.mpr ⟨zmk_88, List.forall_mem_cons.mpr ⟨zmk_89, List.forall_mem_cons.mpr ⟨zmk_90, List.forall_mem_cons.mpr ⟨zmk_91, List.forall_mem_cons.mpr ⟨zmk_92, List.forall_mem_cons.mpr ⟨zmk_93, List.forall_mem_cons.mpr ⟨zmk_94, List.forall_mem_cons.mpr ⟨zmk_95, List.forall_mem_cons.mpr ⟨zmk_96, List.forall_mem_cons.mpr ⟨zmk_97, List.forall_mem_cons.mpr ⟨zmk_98, List.forall_mem_cons.mpr ⟨zmk_99, fun _ h => absurd h List.not_mem_nil⟩⟩⟩⟩⟩⟩⟩⟩⟩⟩⟩⟩⟩⟩⟩⟩⟩⟩⟩⟩
theorem zpk1_5 : ∀ q ∈ zpr_5, zmck zowns zpool q = true := List.forall_mem_cons.mpr ⟨zmk_100, List.forall_mem_cons.mpr ⟨zmk_101, List.forall_mem_cons.mpr ⟨zmk_102, List.forall_mem_cons.mpr ⟨zmk_103, List.forall_mem_cons.mpr ⟨zmk_104, List.forall_mem_cons.mpr ⟨zmk_105, List.forall_mem_cons.mpr ⟨zmk_106, List.forall_mem_cons.mpr ⟨zmk_107, List.forall_mem_cons.mpr ⟨zmk_108, List.forall_mem_cons.mpr ⟨zmk_109, List.forall_mem_cons.mpr ⟨zmk_110, List.forall_mem_cons.mpr ⟨zmk_111, List.forall_mem_cons.mpr ⟨zmk_112, List.forall_mem_cons.mpr ⟨zmk_113, List.forall_mem_cons.mpr ⟨zmk_114, List.forall_mem_cons.mpr ⟨zmk_115, List.forall_mem_cons.mpr ⟨zmk_116, List.forall_mem_cons.mpr ⟨zmk_117, List.forall_mem_cons.mpr ⟨zmk_118, List.forall_mem_cons.mpr ⟨zmk_119, fun _ h => absurd h List.not_mem_nil⟩⟩⟩⟩⟩⟩⟩⟩⟩⟩⟩⟩⟩⟩⟩⟩⟩⟩⟩⟩
theorem zpk1_6 : ∀ q ∈ zpr_6, zmck zowns zpool q = true := List.forall_mem_cons.mpr ⟨zmk_120, List.forall_mem_cons.mpr ⟨zmk_121, List.forall_mem_cons.mpr ⟨zmk_122, List.forall_mem_cons.mpr ⟨zmk_123, List.forall_mem_cons.mpr ⟨zmk_124, List.forall_mem_cons.mpr ⟨zmk_125, List.forall_mem_cons.mpr ⟨zmk_126, List.forall_mem_cons.mpr ⟨zmk_127, List.forall_mem_cons.mpr ⟨zmk_128, List.forall_mem_cons.mpr ⟨zmk_129, List.forall_mem_cons.mpr ⟨zmk_130, List.forall_mem_cons.mpr ⟨zmk_131, List.forall_mem_cons.mpr ⟨zmk_132, List.forall_mem_cons.mpr ⟨zmk_133, List.forall_mem_cons.mpr ⟨zmk_134, List.forall_mem_cons.mpr ⟨zmk_135, List.forall_mem_cons.mpr ⟨zmk_136, List.forall_mem_cons.mpr ⟨zmk_137, List.forall_mem_cons.mpr ⟨zmk_138, List.forall_mem_cons.mpr ⟨zmk_139, fun _ h => absurd h List.not_mem_nil⟩⟩⟩⟩⟩⟩⟩⟩⟩⟩⟩⟩⟩⟩⟩⟩⟩⟩⟩⟩
theorem zpk1_7 : ∀ q ∈ zpr_7, zmck zowns zpool q = true := List.forall_mem_cons.mpr ⟨zmk_140, List.forall_mem_cons.mpr ⟨zmk_141, List.forall_mem_cons.mpr ⟨zmk_142, List.forall_mem_cons.mpr ⟨zmk_143, List.forall_mem_cons.mpr ⟨zmk_144, List.forall_mem_cons.mpr ⟨zmk_145, List.forall_mem_cons.mpr ⟨zmk_146, List.forall_mem_cons.mpr ⟨zmk_147, List.forall_mem_cons.mpr ⟨zmk_148, List.forall_mem_cons.mpr ⟨zmk_149, List.forall_mem_cons.mpr ⟨zmk_150, List.forall_mem_cons.mpr ⟨zmk_151, List.forall_mem_cons.mpr ⟨zmk_152, List.forall_mem_cons.mpr ⟨zmk_153, List.forall_mem_cons.mpr ⟨zmk_154, List.forall_mem_cons.mpr ⟨zmk_155, List.forall_mem_cons.mpr ⟨zmk_156, List.forall_mem_cons.mpr ⟨zmk_157, List.forall_mem_cons.mpr ⟨zmk_158, List.forall_mem_cons.mpr ⟨zmk_159, fun _ h => absurd h List.not_mem_nil⟩⟩⟩⟩⟩⟩⟩⟩⟩⟩⟩⟩⟩⟩⟩⟩⟩⟩⟩⟩
theorem zpk1_8 : ∀ q ∈ zpr_8, zmck zowns zpool q = true := List.forall_mem_cons.mpr ⟨zmk_160, List.forall_mem_cons.mpr ⟨zmk_161, List.forall_mem_cons.mpr ⟨zmk_162, List.forall_mem_cons.mpr ⟨zmk_163, List.forall_mem_cons.mpr ⟨zmk_164, List.forall_mem_cons.mpr ⟨zmk_165, List.forall_mem_cons.mpr ⟨zmk_166, List.forall_mem_cons.mpr ⟨zmk_167, List.forall_mem_cons.mpr ⟨zmk_168, List.forall_mem_cons.mpr ⟨zmk_169, List.forall_mem_cons.mpr ⟨zmk_170, List.forall_mem_cons.mpr ⟨zmk_171, List.forall_mem_cons.mpr ⟨zmk_172, List.forall_mem_cons.mpr ⟨zmk_173, List.forall_mem_cons.mpr ⟨zmk_174, List.forall_mem_cons.mpr ⟨zmk_175, List.forall_mem_cons.mpr ⟨zmk_176, List.forall_mem_cons.mpr ⟨zmk_177, List.forall_mem_cons.mpr ⟨zmk_178, List.forall_mem_cons.mpr ⟨zmk_179, fun _ h => absurd h List.not_mem_nil⟩⟩⟩⟩⟩⟩⟩⟩⟩⟩⟩⟩⟩⟩⟩⟩⟩⟩⟩⟩
theorem zpk1_9 : ∀ q ∈ zpr_9, zmck zowns zpool q = true := List.forall_mem_cons.mpr ⟨zmk_180, List.forall_mem_cons.mpr ⟨zmk_181, List.forall_mem_cons.mpr ⟨zmk_182, List.forall_mem_cons.mpr ⟨zmk_183, List.forall_mem_cons.mpr ⟨zmk_184, List.forall_mem_cons.mpr ⟨zmk_185, List.forall_mem_cons.mpr ⟨zmk_186, List.forall_mem_cons.mpr ⟨zmk_187, List.forall_mem_cons.mpr ⟨zmk_188, List.forall_mem_cons.mpr ⟨zmk_189, List.forall_mem_cons.mpr ⟨zmk_190, List.forall_mem_cons.mpr ⟨zmk_191, List.forall_mem_cons.mpr ⟨zmk_192, List.forall_mem_cons.mpr ⟨zmk_193, List.forall_mem_cons.mpr ⟨zmk_194, List.forall_mem_cons.mpr ⟨zmk_195, List.forall_mem_cons.mpr ⟨zmk_196, List.forall_mem_cons.mpr ⟨zmk_197, List.forall_mem_cons.mpr ⟨zmk_198, List.forall_mem_cons.mpr ⟨zmk_199, fun _ h => absurd h List.not_mem_nil⟩⟩⟩⟩⟩⟩⟩⟩⟩⟩⟩⟩⟩⟩⟩⟩⟩⟩⟩⟩
theorem zpk1_10 : ∀ q ∈ zpr_10, zmck zowns zpool q = true := List.forall_mem_cons.mpr ⟨zmk_200, List.forall_mem_cons.mpr ⟨zmk_201, List.forall_mem_cons.mpr ⟨zmk_202, List.forall_mem_cons.mpr ⟨zmk_203, List.forall_mem_cons.mpr ⟨zmk_204, List.forall_mem_cons.mpr ⟨zmk_205, List.forall_mem_cons.mpr ⟨zmk_206, List.forall_mem_cons.mpr ⟨zmk_207, List.forall_mem_cons.mpr ⟨zmk_208, List.forall_mem_cons.mpr ⟨zmk_209, List.forall_mem_cons.mpr ⟨zmk_210, List.forall_mem_cons.mpr ⟨zmk_211, List.forall_mem_cons.mpr ⟨zmk_212, List.forall_mem_cons.mpr ⟨zmk_213, List.forall_mem_cons.mpr ⟨zmk_214, List.forall_mem_cons.mpr ⟨zmk_215, List.forall_mem_cons.mpr ⟨zmk_216, List.forall_mem_cons.mpr ⟨zmk_217, List.forall_mem_cons.mpr ⟨zmk_218, List.forall_mem_cons.mpr ⟨zmk_219, fun _ h => absurd h List.not_mem_nil⟩⟩⟩⟩⟩⟩⟩⟩⟩⟩⟩⟩⟩⟩⟩⟩⟩⟩⟩⟩
theorem zpk1_11 : ∀ q ∈ zpr_11, zmck zowns zpool q = true := List.forall_mem_cons.mpr ⟨zmk_220, List.forall_mem_cons.mpr ⟨zmk_221, List.forall_mem_cons.mpr ⟨zmk_222, List.forall_mem_cons.mpr ⟨zmk_223, List.forall_mem_cons.mpr ⟨zmk_224, List.forall_mem_cons.mpr ⟨zmk_225, List.forall_mem_cons.mpr ⟨zmk_226, List.forall_mem_cons.mpr ⟨zmk_227, List.forall_mem_cons.mpr ⟨zmk_228, List.forall_mem_cons.mpr ⟨zmk_229, List.forall_mem_cons.mpr ⟨zmk_230, List.forall_mem_cons.mpr ⟨zmk_231, List.forall_mem_cons.mpr ⟨zmk_232, List.forall_mem_cons.mpr ⟨zmk_233, List.forall_mem_cons.mpr ⟨zmk_234, List.forall_mem_cons.mpr ⟨zmk_235, List.forall_mem_cons.mpr ⟨zmk_236, List.forall_mem_cons.mpr ⟨zmk_237, List.forall_mem_cons.mpr ⟨zmk_238, List.forall_mem_cons.mpr ⟨zmk_239, fun _ h => absurd h List.not_mem_nil⟩⟩⟩⟩⟩⟩⟩⟩⟩⟩⟩⟩⟩⟩⟩⟩⟩⟩⟩⟩
theorem zpk1_12 : ∀ q ∈ zpr_12, zmck zowns zpool q = true := List.forall_mem_cons.mpr ⟨zmk_240, List.forall_mem_cons.mpr ⟨zmk_241, List.forall_mem_cons.mpr ⟨zmk_242, List.forall_mem_cons.mpr ⟨zmk_243, List.forall_mem_cons.mpr ⟨zmk_244, List.forall_mem_cons.mpr ⟨zmk_245, List.forall_mem_cons.mpr ⟨zmk_246, List.forall_mem_cons.mpr ⟨zmk_247, List.forall_mem_cons.mpr ⟨zmk_248, List.forall_mem_cons.mpr ⟨zmk_249, List.forall_mem_cons.mpr ⟨zmk_250, List.forall_mem_cons.mpr ⟨zmk_251, List.forall_mem_cons.mpr ⟨zmk_252, List.forall_mem_cons.mpr ⟨zmk_253, List.forall_mem_cons.mpr ⟨zmk_254, List.forall_mem_cons.mpr ⟨zmk_255, List.forall_mem_cons.mpr ⟨zmk_256, List.forall_mem_cons.mpr ⟨zmk_257, List.forall_mem_cons.mpr ⟨zmk_258, List.forall_mem_cons.mpr ⟨zmk_259, fun _ h => absurd h List.not_mem_nil⟩⟩⟩⟩⟩⟩⟩⟩⟩⟩⟩⟩⟩⟩⟩⟩⟩⟩⟩⟩
theorem zpk1_13 : ∀ q ∈ zpr_13, zmck zowns zpool q = true := List.forall_mem_cons.mpr ⟨zmk_260, List.forall_mem_cons.mpr ⟨zmk_261, List.forall_mem_cons.mpr ⟨zmk_262, List.forall_mem_cons.mpr ⟨zmk_263, List.forall_mem_cons.mpr ⟨zmk_264, List.forall_mem_cons.mpr ⟨zmk_265, List.forall_mem_cons.mpr ⟨zmk_266, List.forall_mem_cons.mpr ⟨zmk_267, List.forall_mem_cons.mpr ⟨zmk_268, List.forall_mem_cons.mpr ⟨zmk_269, List.forall_mem_cons.mpr ⟨zmk_270, List.forall_mem_cons.mpr ⟨zmk_271, List.forall_mem_cons.mpr ⟨zmk_272, List.forall_mem_cons.mpr ⟨zmk_273, List.forall_mem_cons.mpr ⟨zmk_274, List.forall_mem_cons.mpr ⟨zmk_275, List.forall_mem_cons.mpr ⟨zmk_276, List.forall_mem_cons.mpr ⟨zmk_277, List.forall_mem_cons.mpr ⟨zmk_278, List.forall_mem_cons.mpr ⟨zmk_279, fun _ h => absurd h List.not_mem_nil⟩⟩⟩⟩⟩⟩⟩⟩⟩⟩⟩⟩⟩⟩⟩⟩⟩⟩⟩⟩
theorem zpk1_14 : ∀ q ∈ zpr_14, zmck zowns zpool q = true := List.forall_mem_cons.mpr ⟨zmk_280, List.forall_mem_cons.mpr ⟨zmk_281, List.forall_mem_cons.mpr ⟨zmk_282, List.forall_mem_cons.mpr ⟨zmk_283, List.forall_mem_cons.mpr ⟨zmk_284, List.forall_mem_cons.mpr ⟨zmk_285, List.forall_mem_cons.mpr ⟨zmk_286, List.forall_mem_cons.mpr ⟨zmk_287, List.forall_mem_cons.mpr ⟨zmk_288, List.forall_mem_cons.mpr ⟨zmk_289, List.forall_mem_cons.mpr ⟨zmk_290, List.forall_mem_cons.mpr ⟨zmk_291, List.forall_mem_cons.mpr ⟨zmk_292, List.forall_mem_cons.mpr ⟨zmk_293, List.forall_mem_cons.mpr ⟨zmk_294, List.forall_mem_cons.mpr ⟨zmk_295, List.forall_mem_cons.mpr ⟨zmk_296, List.forall_mem_cons.mpr ⟨zmk_297, List.forall_mem_cons.mpr ⟨zmk_298, List.forall_mem_cons.mpr ⟨zmk_299, fun _ h => absurd h List.not_mem_nil⟩⟩⟩⟩⟩⟩⟩⟩⟩⟩⟩⟩⟩⟩⟩⟩⟩⟩⟩⟩
theorem zpk1_15 : ∀ q ∈ zpr_15, zmck zowns zpool q = true := List.forall_mem_cons.mpr ⟨zmk_300, List.forall_mem_cons.mpr ⟨zmk_301, List.forall_mem_cons.mpr ⟨zmk_302, List.forall_mem_cons.mpr ⟨zmk_303, List.forall_mem_cons.mpr ⟨zmk_304, List.forall_mem_cons.mpr ⟨zmk_305, List.forall_mem_cons.mpr ⟨zmk_306, List.forall_mem_cons.mpr ⟨zmk_307, List.forall_mem_cons.mpr ⟨zmk_308, List.forall_mem_cons.mpr ⟨zmk_309, List.forall_mem_cons.mpr ⟨zmk_310, List.forall_mem_cons.mpr ⟨zmk_311, List.forall_mem_cons.mpr ⟨zmk_312, List.forall_mem_cons.mpr ⟨zmk_313, List.forall_mem_cons.mpr ⟨zmk_314, List.forall_mem_cons.mpr ⟨zmk_315, List.forall_mem_cons.mpr ⟨zmk_316, List.forall_mem_cons.mpr ⟨zmk_317, List.forall_mem_cons.mpr ⟨zmk_318, List.forall_mem_cons.mpr ⟨zmk_319, fun _ h => absurd h List.not_mem_nil⟩⟩⟩⟩⟩⟩⟩⟩⟩⟩⟩⟩⟩⟩⟩⟩⟩⟩⟩⟩
theorem zpk1_16 : ∀ q ∈ zpr_16, zmck zowns zpool q = true := List.forall_mem_cons.mpr ⟨zmk_320, List.forall_mem_cons.mpr ⟨zmk_321, List.forall_mem_cons.mpr ⟨zmk_322, List.forall_mem_cons.mpr ⟨zmk_323, List.forall_mem_cons.mpr ⟨zmk_324, List.forall_mem_cons.mpr ⟨zmk_325, List.forall_mem_cons.mpr ⟨zmk_326, List.forall_mem_cons.mpr ⟨zmk_327, List.forall_mem_cons.mpr ⟨zmk_328, List.forall_mem_cons.mpr ⟨zmk_329, List.forall_mem_cons.mpr ⟨zmk_330, List.forall_mem_cons.mpr ⟨zmk_331, List.forall_mem_cons.mpr ⟨zmk_332, List.forall_mem_cons.mpr ⟨zmk_333, fun _ h => absurd h List.not_mem_nil⟩⟩⟩⟩⟩⟩⟩⟩⟩⟩⟩⟩⟩⟩
theorem zprog_ok : ∀ q ∈ zprog, zmck zowns zpool q = true := fun q h => (List.mem_append.mp h).elim (zpk1_0 q) ((fun q h => (List.mem_append.mp h).elim (zpk1_1 q) ((fun q h => (List.mem_append.mp h).elim (zpk1_2 q) ((fun q h => (List.mem_append.mp h).elim (zpk1_3 q) ((fun q h => (List.mem_append.mp h).elim (zpk1_4 q) ((fun q h => (List.mem_append.mp h).elim (zpk1_5 q) ((fun q h => (List.mem_append.mp h).elim (zpk1_6 q) ((fun q h => (List.mem_append.mp h).elim (zpk1_7 q) ((fun q h => (List.mem_append.mp h).elim (zpk1_8 q) ((fun q h => (List.mem_append.mp h).elim (zpk1_9 q) ((fun q h => (List.mem_append.mp h).elim (zpk1_10 q) ((fun q h => (List.mem_append.mp h).elim (zpk1_11 q) ((fun q h => (List.mem_append.mp h).elim (zpk1_12 q) ((fun q h => (List.mem_append.mp h).elim (zpk1_13 q) ((fun q h => (List.mem_append.mp h).elim (zpk1_14 q) ((fun q h => (List.mem_append.mp h).elim (zpk1_15 q) (zpk1_16 q)) q)) q)) q)) q)) q)) q)) q)) q)) q)) q)) q)) q)) q)) q)) q)
theorem zpw_0 : (zpr_0.drop 1).all zmwk = true := by decide +kernel
theorem zpw_1 : zpr_1.all zmwk = true := by decide +kernel
theorem zpw_2 : zpr_2.all zmwk = true := by decide +kernel
theorem zpw_3 : zpr_3.all zmwk = true := by decide +kernel
theorem zpw_4 : zpr_4.all zmwk = true := by decide +kernel
theorem zpw_5 : zpr_5.all zmwk = true := by decide +kernel
theorem zpw_6 : zpr_6.all zmwk = true := by decide +kernel
theorem zpw_7 : zpr_7.all zmwk = true := by decide +kernel
theorem zpw_8 : zpr_8.all zmwk = true := by decide +kernel
theorem zpw_9 : zpr_9.all zmwk = true := by decide +kernel
theorem zpw_10 : zpr_10.all zmwk = true := by decide +kernel
theorem zpw_11 : zpr_11.all zmwk = true := by decide +kernel
theorem zpw_12 : zpr_12.all zmwk = true := by decide +kernel
theorem zpw_13 : zpr_13.all zmwk = true := by decide +kernel
theorem zpw_14 : zpr_14.all zmwk = true := by decide +kernel
theorem zpw_15 : zpr_15.all zmwk = true := by decide +kernel
theorem zpw_16 : zpr_16.all zmwk = true := by decide +kernel
theorem zprogw_ok : ∀ q ∈ zprog.drop 1, zmwk q = true := fun q h => (List.mem_append.mp h).elim (List.all_eq_true.mp zpw_0 q) ((fun q h => (List.mem_append.mp h).elim (List.all_eq_true.mp zpw_1 q) ((fun q h => (List.mem_append.mp h).elim (List.all_eq_true.mp zpw_2 q) ((fun q h => (List.mem_append.mp h).elim (List.all_eq_true.mp zpw_3 q) ((fun q h => (List.mem_append.mp h).elim (List.all_eq_true.mp zpw_4 q) ((fun q h => (List.mem_append.mp h).elim (List.all_eq_true.mp zpw_5 q) ((fun q h => (List.mem_append.mp h).elim (List.all_eq_true.mp zpw_6 q) ((fun q h => (List.mem_append.mp h).elim (List.all_eq_true.mp zpw_7 q) ((fun q h => (List.mem_append.mp h).elim (List.all_eq_true.mp zpw_8 q) ((fun q h => (List.mem_append.mp h).elim (List.all_eq_true.mp zpw_9 q) ((fun q h => (List.mem_append.mp h).elim (List.all_eq_true.mp zpw_10 q) ((fun q h => (List.mem_append.mp h).elim (List.all_eq_true.mp zpw_11 q) ((fun q h => (List.mem_append.mp h).elim (List.all_eq_true.mp zpw_12 q) ((fun q h => (List.mem_append.mp h).elim (List.all_eq_true.mp zpw_13 q) ((fun q h => (List.mem_append.mp h).elim (List.all_eq_true.mp zpw_14 q) ((fun q h => (List.mem_append.mp h).elim (List.all_eq_true.mp zpw_15 q) ((List.all_eq_true.mp zpw_16) q)) q)) q)) q)) q)) q)) q)) q)) q)) q)) q)) q)) q)) q)) q)) q)
set_option maxRecDepth 100000 in
theorem zcd_1 : Jvm.Cond.code zm_1.2.1.1 zm_1.2.1.2.1 zm_1.2.1.2.2.1 zm_1.2.1.2.2.2 ∈ zT := zcode_of (i := 502) rfl rfl
set_option maxRecDepth 100000 in
theorem zcd_2 : Jvm.Cond.code zm_2.2.1.1 zm_2.2.1.2.1 zm_2.2.1.2.2.1 zm_2.2.1.2.2.2 ∈ zT := zcode_of (i := 1351) rfl rfl
set_option maxRecDepth 100000 in
theorem zcd_3 : Jvm.Cond.code zm_3.2.1.1 zm_3.2.1.2.1 zm_3.2.1.2.2.1 zm_3.2.1.2.2.2 ∈ zT := zcode_of (i := 1355) rfl rfl
set_option maxRecDepth 100000 in
theorem zcd_4 : Jvm.Cond.code zm_4.2.1.1 zm_4.2.1.2.1 zm_4.2.1.2.2.1 zm_4.2.1.2.2.2 ∈ zT := zcode_of (i := 1364) rfl rfl
set_option maxRecDepth 100000 in
theorem zcd_5 : Jvm.Cond.code zm_5.2.1.1 zm_5.2.1.2.1 zm_5.2.1.2.2.1 zm_5.2.1.2.2.2 ∈ zT := zcode_of (i := 1367) rfl rfl
set_option maxRecDepth 100000 in
theorem zcd_6 : Jvm.Cond.code zm_6.2.1.1 zm_6.2.1.2.1 zm_6.2.1.2.2.1 zm_6.2.1.2.2.2 ∈ zT := zcode_of (i := 1384) rfl rfl
set_option maxRecDepth 100000 in
theorem zcd_7 : Jvm.Cond.code zm_7.2.1.1 zm_7.2.1.2.1 zm_7.2.1.2.2.1 zm_7.2.1.2.2.2 ∈ zT := zcode_of (i := 1397) rfl rfl
set_option maxRecDepth 100000 in
theorem zcd_8 : Jvm.Cond.code zm_8.2.1.1 zm_8.2.1.2.1 zm_8.2.1.2.2.1 zm_8.2.1.2.2.2 ∈ zT := zcode_of (i := 1393) rfl rfl
set_option maxRecDepth 100000 in
theorem zcd_9 : Jvm.Cond.code zm_9.2.1.1 zm_9.2.1.2.1 zm_9.2.1.2.2.1 zm_9.2.1.2.2.2 ∈ zT := zcode_of (i := 1408) rfl rfl
set_option maxRecDepth 100000 in
theorem zcd_10 : Jvm.Cond.code zm_10.2.1.1 zm_10.2.1.2.1 zm_10.2.1.2.2.1 zm_10.2.1.2.2.2 ∈ zT := zcode_of (i := 1402) rfl rfl
set_option maxRecDepth 100000 in
theorem zcd_11 : Jvm.Cond.code zm_11.2.1.1 zm_11.2.1.2.1 zm_11.2.1.2.2.1 zm_11.2.1.2.2.2 ∈ zT := zcode_of (i := 1416) rfl rfl
set_option maxRecDepth 100000 in
theorem zcd_12 : Jvm.Cond.code zm_12.2.1.1 zm_12.2.1.2.1 zm_12.2.1.2.2.1 zm_12.2.1.2.2.2 ∈ zT := zcode_of (i := 1424) rfl rfl
set_option maxRecDepth 100000 in
theorem zcd_13 : Jvm.Cond.code zm_13.2.1.1 zm_13.2.1.2.1 zm_13.2.1.2.2.1 zm_13.2.1.2.2.2 ∈ zT := zcode_of (i := 1420) rfl rfl
set_option maxRecDepth 100000 in
theorem zcd_14 : Jvm.Cond.code zm_14.2.1.1 zm_14.2.1.2.1 zm_14.2.1.2.2.1 zm_14.2.1.2.2.2 ∈ zT := zcode_of (i := 1428) rfl rfl
set_option maxRecDepth 100000 in
theorem zcd_15 : Jvm.Cond.code zm_15.2.1.1 zm_15.2.1.2.1 zm_15.2.1.2.2.1 zm_15.2.1.2.2.2 ∈ zT := zcode_of (i := 1432) rfl rfl
set_option maxRecDepth 100000 in
theorem zcd_16 : Jvm.Cond.code zm_16.2.1.1 zm_16.2.1.2.1 zm_16.2.1.2.2.1 zm_16.2.1.2.2.2 ∈ zT := zcode_of (i := 1436) rfl rfl
set_option maxRecDepth 100000 in
theorem zcd_17 : Jvm.Cond.code zm_17.2.1.1 zm_17.2.1.2.1 zm_17.2.1.2.2.1 zm_17.2.1.2.2.2 ∈ zT := zcode_of (i := 388) rfl rfl
set_option maxRecDepth 100000 in
theorem zcd_18 : Jvm.Cond.code zm_18.2.1.1 zm_18.2.1.2.1 zm_18.2.1.2.2.1 zm_18.2.1.2.2.2 ∈ zT := zcode_of (i := 669) rfl rfl
set_option maxRecDepth 100000 in
theorem zcd_19 : Jvm.Cond.code zm_19.2.1.1 zm_19.2.1.2.1 zm_19.2.1.2.2.1 zm_19.2.1.2.2.2 ∈ zT := zcode_of (i := 731) rfl rfl
set_option maxRecDepth 100000 in
theorem zcd_20 : Jvm.Cond.code zm_20.2.1.1 zm_20.2.1.2.1 zm_20.2.1.2.2.1 zm_20.2.1.2.2.2 ∈ zT := zcode_of (i := 745) rfl rfl
set_option maxRecDepth 100000 in
theorem zcd_21 : Jvm.Cond.code zm_21.2.1.1 zm_21.2.1.2.1 zm_21.2.1.2.2.1 zm_21.2.1.2.2.2 ∈ zT := zcode_of (i := 749) rfl rfl
set_option maxRecDepth 100000 in
theorem zcd_22 : Jvm.Cond.code zm_22.2.1.1 zm_22.2.1.2.1 zm_22.2.1.2.2.1 zm_22.2.1.2.2.2 ∈ zT := zcode_of (i := 757) rfl rfl
set_option maxRecDepth 100000 in
theorem zcd_23 : Jvm.Cond.code zm_23.2.1.1 zm_23.2.1.2.1 zm_23.2.1.2.2.1 zm_23.2.1.2.2.2 ∈ zT := zcode_of (i := 774) rfl rfl
set_option maxRecDepth 100000 in
theorem zcd_24 : Jvm.Cond.code zm_24.2.1.1 zm_24.2.1.2.1 zm_24.2.1.2.2.1 zm_24.2.1.2.2.2 ∈ zT := zcode_of (i := 740) rfl rfl
set_option maxRecDepth 100000 in
theorem zcd_25 : Jvm.Cond.code zm_25.2.1.1 zm_25.2.1.2.1 zm_25.2.1.2.2.1 zm_25.2.1.2.2.2 ∈ zT := zcode_of (i := 765) rfl rfl
set_option maxRecDepth 100000 in
theorem zcd_26 : Jvm.Cond.code zm_26.2.1.1 zm_26.2.1.2.1 zm_26.2.1.2.2.1 zm_26.2.1.2.2.2 ∈ zT := zcode_of (i := 1029) rfl rfl
set_option maxRecDepth 100000 in
theorem zcd_27 : Jvm.Cond.code zm_27.2.1.1 zm_27.2.1.2.1 zm_27.2.1.2.2.1 zm_27.2.1.2.2.2 ∈ zT := zcode_of (i := 1021) rfl rfl
set_option maxRecDepth 100000 in
theorem zcd_28 : Jvm.Cond.code zm_28.2.1.1 zm_28.2.1.2.1 zm_28.2.1.2.2.1 zm_28.2.1.2.2.2 ∈ zT := zcode_of (i := 1037) rfl rfl
set_option maxRecDepth 100000 in
theorem zcd_29 : Jvm.Cond.code zm_29.2.1.1 zm_29.2.1.2.1 zm_29.2.1.2.2.1 zm_29.2.1.2.2.2 ∈ zT := zcode_of (i := 1056) rfl rfl
set_option maxRecDepth 100000 in
theorem zcd_30 : Jvm.Cond.code zm_30.2.1.1 zm_30.2.1.2.1 zm_30.2.1.2.2.1 zm_30.2.1.2.2.2 ∈ zT := zcode_of (i := 1050) rfl rfl
set_option maxRecDepth 100000 in
theorem zcd_31 : Jvm.Cond.code zm_31.2.1.1 zm_31.2.1.2.1 zm_31.2.1.2.2.1 zm_31.2.1.2.2.2 ∈ zT := zcode_of (i := 1087) rfl rfl
set_option maxRecDepth 100000 in
theorem zcd_32 : Jvm.Cond.code zm_32.2.1.1 zm_32.2.1.2.1 zm_32.2.1.2.2.1 zm_32.2.1.2.2.2 ∈ zT := zcode_of (i := 1337) rfl rfl
set_option maxRecDepth 100000 in
theorem zcd_33 : Jvm.Cond.code zm_33.2.1.1 zm_33.2.1.2.1 zm_33.2.1.2.2.1 zm_33.2.1.2.2.2 ∈ zT := zcode_of (i := 1325) rfl rfl
set_option maxRecDepth 100000 in
theorem zcd_34 : Jvm.Cond.code zm_34.2.1.1 zm_34.2.1.2.1 zm_34.2.1.2.2.1 zm_34.2.1.2.2.2 ∈ zT := zcode_of (i := 1067) rfl rfl
set_option maxRecDepth 100000 in
theorem zcd_35 : Jvm.Cond.code zm_35.2.1.1 zm_35.2.1.2.1 zm_35.2.1.2.2.1 zm_35.2.1.2.2.2 ∈ zT := zcode_of (i := 1071) rfl rfl
set_option maxRecDepth 100000 in
theorem zcd_36 : Jvm.Cond.code zm_36.2.1.1 zm_36.2.1.2.1 zm_36.2.1.2.2.1 zm_36.2.1.2.2.2 ∈ zT := zcode_of (i := 1140) rfl rfl
set_option maxRecDepth 100000 in
theorem zcd_37 : Jvm.Cond.code zm_37.2.1.1 zm_37.2.1.2.1 zm_37.2.1.2.2.1 zm_37.2.1.2.2.2 ∈ zT := zcode_of (i := 1153) rfl rfl
set_option maxRecDepth 100000 in
theorem zcd_38 : Jvm.Cond.code zm_38.2.1.1 zm_38.2.1.2.1 zm_38.2.1.2.2.1 zm_38.2.1.2.2.2 ∈ zT := zcode_of (i := 1317) rfl rfl
set_option maxRecDepth 100000 in
theorem zcd_39 : Jvm.Cond.code zm_39.2.1.1 zm_39.2.1.2.1 zm_39.2.1.2.2.1 zm_39.2.1.2.2.2 ∈ zT := zcode_of (i := 1321) rfl rfl
set_option maxRecDepth 100000 in
theorem zcd_40 : Jvm.Cond.code zm_40.2.1.1 zm_40.2.1.2.1 zm_40.2.1.2.2.1 zm_40.2.1.2.2.2 ∈ zT := zcode_of (i := 1333) rfl rfl
set_option maxRecDepth 100000 in
theorem zcd_41 : Jvm.Cond.code zm_41.2.1.1 zm_41.2.1.2.1 zm_41.2.1.2.2.1 zm_41.2.1.2.2.2 ∈ zT := zcode_of (i := 1342) rfl rfl
set_option maxRecDepth 100000 in
theorem zcd_42 : Jvm.Cond.code zm_42.2.1.1 zm_42.2.1.2.1 zm_42.2.1.2.2.1 zm_42.2.1.2.2.2 ∈ zT := zcode_of (i := 464) rfl rfl
set_option maxRecDepth 100000 in
theorem zcd_43 : Jvm.Cond.code zm_43.2.1.1 zm_43.2.1.2.1 zm_43.2.1.2.2.1 zm_43.2.1.2.2.2 ∈ zT := zcode_of (i := 1183) rfl rfl
set_option maxRecDepth 100000 in
theorem zcd_44 : Jvm.Cond.code zm_44.2.1.1 zm_44.2.1.2.1 zm_44.2.1.2.2.1 zm_44.2.1.2.2.2 ∈ zT := zcode_of (i := 1192) rfl rfl
set_option maxRecDepth 100000 in
theorem zcd_45 : Jvm.Cond.code zm_45.2.1.1 zm_45.2.1.2.1 zm_45.2.1.2.2.1 zm_45.2.1.2.2.2 ∈ zT := zcode_of (i := 1196) rfl rfl
set_option maxRecDepth 100000 in
theorem zcd_46 : Jvm.Cond.code zm_46.2.1.1 zm_46.2.1.2.1 zm_46.2.1.2.2.1 zm_46.2.1.2.2.2 ∈ zT := zcode_of (i := 1201) rfl rfl
set_option maxRecDepth 100000 in
theorem zcd_47 : Jvm.Cond.code zm_47.2.1.1 zm_47.2.1.2.1 zm_47.2.1.2.2.1 zm_47.2.1.2.2.2 ∈ zT := zcode_of (i := 1205) rfl rfl
set_option maxRecDepth 100000 in
theorem zcd_48 : Jvm.Cond.code zm_48.2.1.1 zm_48.2.1.2.1 zm_48.2.1.2.2.1 zm_48.2.1.2.2.2 ∈ zT := zcode_of (i := 1209) rfl rfl
set_option maxRecDepth 100000 in
theorem zcd_49 : Jvm.Cond.code zm_49.2.1.1 zm_49.2.1.2.1 zm_49.2.1.2.2.1 zm_49.2.1.2.2.2 ∈ zT := zcode_of (i := 1213) rfl rfl
set_option maxRecDepth 100000 in
theorem zcd_50 : Jvm.Cond.code zm_50.2.1.1 zm_50.2.1.2.1 zm_50.2.1.2.2.1 zm_50.2.1.2.2.2 ∈ zT := zcode_of (i := 1224) rfl rfl
set_option maxRecDepth 100000 in
theorem zcd_51 : Jvm.Cond.code zm_51.2.1.1 zm_51.2.1.2.1 zm_51.2.1.2.2.1 zm_51.2.1.2.2.2 ∈ zT := zcode_of (i := 1245) rfl rfl
set_option maxRecDepth 100000 in
theorem zcd_52 : Jvm.Cond.code zm_52.2.1.1 zm_52.2.1.2.1 zm_52.2.1.2.2.1 zm_52.2.1.2.2.2 ∈ zT := zcode_of (i := 431) rfl rfl
set_option maxRecDepth 100000 in
theorem zcd_53 : Jvm.Cond.code zm_53.2.1.1 zm_53.2.1.2.1 zm_53.2.1.2.2.1 zm_53.2.1.2.2.2 ∈ zT := zcode_of (i := 1164) rfl rfl
set_option maxRecDepth 100000 in
theorem zcd_54 : Jvm.Cond.code zm_54.2.1.1 zm_54.2.1.2.1 zm_54.2.1.2.2.1 zm_54.2.1.2.2.2 ∈ zT := zcode_of (i := 635) rfl rfl
set_option maxRecDepth 100000 in
theorem zcd_55 : Jvm.Cond.code zm_55.2.1.1 zm_55.2.1.2.1 zm_55.2.1.2.2.1 zm_55.2.1.2.2.2 ∈ zT := zcode_of (i := 630) rfl rfl
set_option maxRecDepth 100000 in
theorem zcd_56 : Jvm.Cond.code zm_56.2.1.1 zm_56.2.1.2.1 zm_56.2.1.2.2.1 zm_56.2.1.2.2.2 ∈ zT := zcode_of (i := 1188) rfl rfl
set_option maxRecDepth 100000 in
theorem zcd_57 : Jvm.Cond.code zm_57.2.1.1 zm_57.2.1.2.1 zm_57.2.1.2.2.1 zm_57.2.1.2.2.2 ∈ zT := zcode_of (i := 1253) rfl rfl
set_option maxRecDepth 100000 in
theorem zcd_58 : Jvm.Cond.code zm_58.2.1.1 zm_58.2.1.2.1 zm_58.2.1.2.2.1 zm_58.2.1.2.2.2 ∈ zT := zcode_of (i := 1263) rfl rfl
set_option maxRecDepth 100000 in
theorem zcd_59 : Jvm.Cond.code zm_59.2.1.1 zm_59.2.1.2.1 zm_59.2.1.2.2.1 zm_59.2.1.2.2.2 ∈ zT := zcode_of (i := 1267) rfl rfl
set_option maxRecDepth 100000 in
theorem zcd_60 : Jvm.Cond.code zm_60.2.1.1 zm_60.2.1.2.1 zm_60.2.1.2.2.1 zm_60.2.1.2.2.2 ∈ zT := zcode_of (i := 1272) rfl rfl
set_option maxRecDepth 100000 in
theorem zcd_61 : Jvm.Cond.code zm_61.2.1.1 zm_61.2.1.2.1 zm_61.2.1.2.2.1 zm_61.2.1.2.2.2 ∈ zT := zcode_of (i := 1282) rfl rfl
set_option maxRecDepth 100000 in
theorem zcd_62 : Jvm.Cond.code zm_62.2.1.1 zm_62.2.1.2.1 zm_62.2.1.2.2.1 zm_62.2.1.2.2.2 ∈ zT := zcode_of (i := 303) rfl rfl
set_option maxRecDepth 100000 in
theorem zcd_63 : Jvm.Cond.code zm_63.2.1.1 zm_63.2.1.2.1 zm_63.2.1.2.2.1 zm_63.2.1.2.2.2 ∈ zT := zcode_of (i := 785) rfl rfl
set_option maxRecDepth 100000 in
theorem zcd_64 : Jvm.Cond.code zm_64.2.1.1 zm_64.2.1.2.1 zm_64.2.1.2.2.1 zm_64.2.1.2.2.2 ∈ zT := zcode_of (i := 973) rfl rfl
set_option maxRecDepth 100000 in
theorem zcd_65 : Jvm.Cond.code zm_65.2.1.1 zm_65.2.1.2.1 zm_65.2.1.2.2.1 zm_65.2.1.2.2.2 ∈ zT := zcode_of (i := 977) rfl rfl
set_option maxRecDepth 100000 in
theorem zcd_66 : Jvm.Cond.code zm_66.2.1.1 zm_66.2.1.2.1 zm_66.2.1.2.2.1 zm_66.2.1.2.2.2 ∈ zT := zcode_of (i := 793) rfl rfl
set_option maxRecDepth 100000 in
theorem zcd_67 : Jvm.Cond.code zm_67.2.1.1 zm_67.2.1.2.1 zm_67.2.1.2.2.1 zm_67.2.1.2.2.2 ∈ zT := zcode_of (i := 797) rfl rfl
set_option maxRecDepth 100000 in
theorem zcd_68 : Jvm.Cond.code zm_68.2.1.1 zm_68.2.1.2.1 zm_68.2.1.2.2.1 zm_68.2.1.2.2.2 ∈ zT := zcode_of (i := 863) rfl rfl
set_option maxRecDepth 100000 in
theorem zcd_69 : Jvm.Cond.code zm_69.2.1.1 zm_69.2.1.2.1 zm_69.2.1.2.2.1 zm_69.2.1.2.2.2 ∈ zT := zcode_of (i := 801) rfl rfl
set_option maxRecDepth 100000 in
theorem zcd_70 : Jvm.Cond.code zm_70.2.1.1 zm_70.2.1.2.1 zm_70.2.1.2.2.1 zm_70.2.1.2.2.2 ∈ zT := zcode_of (i := 867) rfl rfl
set_option maxRecDepth 100000 in
theorem zcd_71 : Jvm.Cond.code zm_71.2.1.1 zm_71.2.1.2.1 zm_71.2.1.2.2.1 zm_71.2.1.2.2.2 ∈ zT := zcode_of (i := 805) rfl rfl
set_option maxRecDepth 100000 in
theorem zcd_72 : Jvm.Cond.code zm_72.2.1.1 zm_72.2.1.2.1 zm_72.2.1.2.2.1 zm_72.2.1.2.2.2 ∈ zT := zcode_of (i := 809) rfl rfl
set_option maxRecDepth 100000 in
theorem zcd_73 : Jvm.Cond.code zm_73.2.1.1 zm_73.2.1.2.1 zm_73.2.1.2.2.1 zm_73.2.1.2.2.2 ∈ zT := zcode_of (i := 873) rfl rfl
set_option maxRecDepth 100000 in
theorem zcd_74 : Jvm.Cond.code zm_74.2.1.1 zm_74.2.1.2.1 zm_74.2.1.2.2.1 zm_74.2.1.2.2.2 ∈ zT := zcode_of (i := 891) rfl rfl
set_option maxRecDepth 100000 in
theorem zcd_75 : Jvm.Cond.code zm_75.2.1.1 zm_75.2.1.2.1 zm_75.2.1.2.2.1 zm_75.2.1.2.2.2 ∈ zT := zcode_of (i := 887) rfl rfl
set_option maxRecDepth 100000 in
theorem zcd_76 : Jvm.Cond.code zm_76.2.1.1 zm_76.2.1.2.1 zm_76.2.1.2.2.1 zm_76.2.1.2.2.2 ∈ zT := zcode_of (i := 899) rfl rfl
set_option maxRecDepth 100000 in
theorem zcd_77 : Jvm.Cond.code zm_77.2.1.1 zm_77.2.1.2.1 zm_77.2.1.2.2.1 zm_77.2.1.2.2.2 ∈ zT := zcode_of (i := 881) rfl rfl
set_option maxRecDepth 100000 in
theorem zcd_78 : Jvm.Cond.code zm_78.2.1.1 zm_78.2.1.2.1 zm_78.2.1.2.2.1 zm_78.2.1.2.2.2 ∈ zT := zcode_of (i := 895) rfl rfl
set_option maxRecDepth 100000 in
theorem zcd_79 : Jvm.Cond.code zm_79.2.1.1 zm_79.2.1.2.1 zm_79.2.1.2.2.1 zm_79.2.1.2.2.2 ∈ zT := zcode_of (i := 955) rfl rfl
set_option maxRecDepth 100000 in
theorem zcd_80 : Jvm.Cond.code zm_80.2.1.1 zm_80.2.1.2.1 zm_80.2.1.2.2.1 zm_80.2.1.2.2.2 ∈ zT := zcode_of (i := 963) rfl rfl
set_option maxRecDepth 100000 in
theorem zcd_81 : Jvm.Cond.code zm_81.2.1.1 zm_81.2.1.2.1 zm_81.2.1.2.2.1 zm_81.2.1.2.2.2 ∈ zT := zcode_of (i := 911) rfl rfl
set_option maxRecDepth 100000 in
theorem zcd_82 : Jvm.Cond.code zm_82.2.1.1 zm_82.2.1.2.1 zm_82.2.1.2.2.1 zm_82.2.1.2.2.2 ∈ zT := zcode_of (i := 917) rfl rfl
set_option maxRecDepth 100000 in
theorem zcd_83 : Jvm.Cond.code zm_83.2.1.1 zm_83.2.1.2.1 zm_83.2.1.2.2.1 zm_83.2.1.2.2.2 ∈ zT := zcode_of (i := 921) rfl rfl
set_option maxRecDepth 100000 in
theorem zcd_84 : Jvm.Cond.code zm_84.2.1.1 zm_84.2.1.2.1 zm_84.2.1.2.2.1 zm_84.2.1.2.2.2 ∈ zT := zcode_of (i := 925) rfl rfl
set_option maxRecDepth 100000 in
theorem zcd_85 : Jvm.Cond.code zm_85.2.1.1 zm_85.2.1.2.1 zm_85.2.1.2.2.1 zm_85.2.1.2.2.2 ∈ zT := zcode_of (i := 933) rfl rfl
set_option maxRecDepth 100000 in
theorem zcd_86 : Jvm.Cond.code zm_86.2.1.1 zm_86.2.1.2.1 zm_86.2.1.2.2.1 zm_86.2.1.2.2.2 ∈ zT := zcode_of (i := 939) rfl rfl
set_option maxRecDepth 100000 in
theorem zcd_87 : Jvm.Cond.code zm_87.2.1.1 zm_87.2.1.2.1 zm_87.2.1.2.2.1 zm_87.2.1.2.2.2 ∈ zT := zcode_of (i := 361) rfl rfl
set_option maxRecDepth 100000 in
theorem zcd_88 : Jvm.Cond.code zm_88.2.1.1 zm_88.2.1.2.1 zm_88.2.1.2.2.1 zm_88.2.1.2.2.2 ∈ zT := zcode_of (i := 602) rfl rfl
set_option maxRecDepth 100000 in
theorem zcd_89 : Jvm.Cond.code zm_89.2.1.1 zm_89.2.1.2.1 zm_89.2.1.2.2.1 zm_89.2.1.2.2.2 ∈ zT := zcode_of (i := 678) rfl rfl
set_option maxRecDepth 100000 in
theorem zcd_90 : Jvm.Cond.code zm_90.2.1.1 zm_90.2.1.2.1 zm_90.2.1.2.2.1 zm_90.2.1.2.2.2 ∈ zT := zcode_of (i := 735) rfl rfl
set_option maxRecDepth 100000 in
theorem zcd_91 : Jvm.Cond.code zm_91.2.1.1 zm_91.2.1.2.1 zm_91.2.1.2.2.1 zm_91.2.1.2.2.2 ∈ zT := zcode_of (i := 1308) rfl rfl
set_option maxRecDepth 100000 in
theorem zcd_92 : Jvm.Cond.code zm_92.2.1.1 zm_92.2.1.2.1 zm_92.2.1.2.2.1 zm_92.2.1.2.2.2 ∈ zT := zcode_of (i := 444) rfl rfl
set_option maxRecDepth 100000 in
theorem zcd_93 : Jvm.Cond.code zm_93.2.1.1 zm_93.2.1.2.1 zm_93.2.1.2.2.1 zm_93.2.1.2.2.2 ∈ zT := zcode_of (i := 590) rfl rfl
set_option maxRecDepth 100000 in
theorem zcd_94 : Jvm.Cond.code zm_94.2.1.1 zm_94.2.1.2.1 zm_94.2.1.2.2.1 zm_94.2.1.2.2.2 ∈ zT := zcode_of (i := 594) rfl rfl
set_option maxRecDepth 100000 in
theorem zcd_95 : Jvm.Cond.code zm_95.2.1.1 zm_95.2.1.2.1 zm_95.2.1.2.2.1 zm_95.2.1.2.2.2 ∈ zT := zcode_of (i := 616) rfl rfl
set_option maxRecDepth 100000 in
theorem zcd_96 : Jvm.Cond.code zm_96.2.1.1 zm_96.2.1.2.1 zm_96.2.1.2.2.1 zm_96.2.1.2.2.2 ∈ zT := zcode_of (i := 620) rfl rfl
set_option maxRecDepth 100000 in
theorem zcd_97 : Jvm.Cond.code zm_97.2.1.1 zm_97.2.1.2.1 zm_97.2.1.2.2.1 zm_97.2.1.2.2.2 ∈ zT := zcode_of (i := 626) rfl rfl
set_option maxRecDepth 100000 in
theorem zcd_98 : Jvm.Cond.code zm_98.2.1.1 zm_98.2.1.2.1 zm_98.2.1.2.2.1 zm_98.2.1.2.2.2 ∈ zT := zcode_of (i := 644) rfl rfl
set_option maxRecDepth 100000 in
theorem zcd_99 : Jvm.Cond.code zm_99.2.1.1 zm_99.2.1.2.1 zm_99.2.1.2.2.1 zm_99.2.1.2.2.2 ∈ zT := zcode_of (i := 648) rfl rfl
set_option maxRecDepth 100000 in
theorem zcd_100 : Jvm.Cond.code zm_100.2.1.1 zm_100.2.1.2.1 zm_100.2.1.2.2.1 zm_100.2.1.2.2.2 ∈ zT := zcode_of (i := 652) rfl rfl
set_option maxRecDepth 100000 in
theorem zcd_101 : Jvm.Cond.code zm_101.2.1.1 zm_101.2.1.2.1 zm_101.2.1.2.2.1 zm_101.2.1.2.2.2 ∈ zT := zcode_of (i := 151) rfl rfl
set_option maxRecDepth 100000 in
theorem zcd_102 : Jvm.Cond.code zm_102.2.1.1 zm_102.2.1.2.1 zm_102.2.1.2.2.1 zm_102.2.1.2.2.2 ∈ zT := zcode_of (i := 704) rfl rfl
set_option maxRecDepth 100000 in
theorem zcd_103 : Jvm.Cond.code zm_103.2.1.1 zm_103.2.1.2.1 zm_103.2.1.2.2.1 zm_103.2.1.2.2.2 ∈ zT := zcode_of (i := 688) rfl rfl
set_option maxRecDepth 100000 in
theorem zcd_104 : Jvm.Cond.code zm_104.2.1.1 zm_104.2.1.2.1 zm_104.2.1.2.2.1 zm_104.2.1.2.2.2 ∈ zT := zcode_of (i := 598) rfl rfl
set_option maxRecDepth 100000 in
theorem zcd_105 : Jvm.Cond.code zm_105.2.1.1 zm_105.2.1.2.1 zm_105.2.1.2.2.1 zm_105.2.1.2.2.2 ∈ zT := zcode_of (i := 230) rfl rfl
set_option maxRecDepth 100000 in
theorem zcd_106 : Jvm.Cond.code zm_106.2.1.1 zm_106.2.1.2.1 zm_106.2.1.2.2.1 zm_106.2.1.2.2.2 ∈ zT := zcode_of (i := 226) rfl rfl
set_option maxRecDepth 100000 in
theorem zcd_107 : Jvm.Cond.code zm_107.2.1.1 zm_107.2.1.2.1 zm_107.2.1.2.2.1 zm_107.2.1.2.2.2 ∈ zT := zcode_of (i := 665) rfl rfl
set_option maxRecDepth 100000 in
theorem zcd_108 : Jvm.Cond.code zm_108.2.1.1 zm_108.2.1.2.1 zm_108.2.1.2.2.1 zm_108.2.1.2.2.2 ∈ zT := zcode_of (i := 1219) rfl rfl
set_option maxRecDepth 100000 in
theorem zcd_109 : Jvm.Cond.code zm_109.2.1.1 zm_109.2.1.2.1 zm_109.2.1.2.2.1 zm_109.2.1.2.2.2 ∈ zT := zcode_of (i := 177) rfl rfl
set_option maxRecDepth 100000 in
theorem zcd_110 : Jvm.Cond.code zm_110.2.1.1 zm_110.2.1.2.1 zm_110.2.1.2.2.1 zm_110.2.1.2.2.2 ∈ zT := zcode_of (i := 877) rfl rfl
set_option maxRecDepth 100000 in
theorem zcd_111 : Jvm.Cond.code zm_111.2.1.1 zm_111.2.1.2.1 zm_111.2.1.2.2.1 zm_111.2.1.2.2.2 ∈ zT := zcode_of (i := 989) rfl rfl
set_option maxRecDepth 100000 in
theorem zcd_112 : Jvm.Cond.code zm_112.2.1.1 zm_112.2.1.2.1 zm_112.2.1.2.2.1 zm_112.2.1.2.2.2 ∈ zT := zcode_of (i := 903) rfl rfl
set_option maxRecDepth 100000 in
theorem zcd_113 : Jvm.Cond.code zm_113.2.1.1 zm_113.2.1.2.1 zm_113.2.1.2.2.1 zm_113.2.1.2.2.2 ∈ zT := zcode_of (i := 943) rfl rfl
set_option maxRecDepth 100000 in
theorem zcd_114 : Jvm.Cond.code zm_114.2.1.1 zm_114.2.1.2.1 zm_114.2.1.2.2.1 zm_114.2.1.2.2.2 ∈ zT := zcode_of (i := 753) rfl rfl
set_option maxRecDepth 100000 in
theorem zcd_115 : Jvm.Cond.code zm_115.2.1.1 zm_115.2.1.2.1 zm_115.2.1.2.2.1 zm_115.2.1.2.2.2 ∈ zT := zcode_of (i := 1075) rfl rfl
set_option maxRecDepth 100000 in
theorem zcd_116 : Jvm.Cond.code zm_116.2.1.1 zm_116.2.1.2.1 zm_116.2.1.2.2.1 zm_116.2.1.2.2.2 ∈ zT := zcode_of (i := 1025) rfl rfl
set_option maxRecDepth 100000 in
theorem zcd_117 : Jvm.Cond.code zm_117.2.1.1 zm_117.2.1.2.1 zm_117.2.1.2.2.1 zm_117.2.1.2.2.2 ∈ zT := zcode_of (i := 1033) rfl rfl
set_option maxRecDepth 100000 in
theorem zcd_118 : Jvm.Cond.code zm_118.2.1.1 zm_118.2.1.2.1 zm_118.2.1.2.2.1 zm_118.2.1.2.2.2 ∈ zT := zcode_of (i := 307) rfl rfl
set_option maxRecDepth 100000 in
theorem zcd_119 : Jvm.Cond.code zm_119.2.1.1 zm_119.2.1.2.1 zm_119.2.1.2.2.1 zm_119.2.1.2.2.2 ∈ zT := zcode_of (i := 143) rfl rfl
set_option maxRecDepth 100000 in
theorem zcd_120 : Jvm.Cond.code zm_120.2.1.1 zm_120.2.1.2.1 zm_120.2.1.2.2.1 zm_120.2.1.2.2.2 ∈ zT := zcode_of (i := 1458) rfl rfl
set_option maxRecDepth 100000 in
theorem zcd_121 : Jvm.Cond.code zm_121.2.1.1 zm_121.2.1.2.1 zm_121.2.1.2.2.1 zm_121.2.1.2.2.2 ∈ zT := zcode_of (i := 638) rfl rfl
set_option maxRecDepth 100000 in
theorem zcd_122 : Jvm.Cond.code zm_122.2.1.1 zm_122.2.1.2.1 zm_122.2.1.2.2.1 zm_122.2.1.2.2.2 ∈ zT := zcode_of (i := 761) rfl rfl
set_option maxRecDepth 100000 in
theorem zcd_123 : Jvm.Cond.code zm_123.2.1.1 zm_123.2.1.2.1 zm_123.2.1.2.2.1 zm_123.2.1.2.2.2 ∈ zT := zcode_of (i := 612) rfl rfl
set_option maxRecDepth 100000 in
theorem zcd_124 : Jvm.Cond.code zm_124.2.1.1 zm_124.2.1.2.1 zm_124.2.1.2.2.1 zm_124.2.1.2.2.2 ∈ zT := zcode_of (i := 661) rfl rfl
set_option maxRecDepth 100000 in
theorem zcd_125 : Jvm.Cond.code zm_125.2.1.1 zm_125.2.1.2.1 zm_125.2.1.2.2.1 zm_125.2.1.2.2.2 ∈ zT := zcode_of (i := 692) rfl rfl
set_option maxRecDepth 100000 in
theorem zcd_126 : Jvm.Cond.code zm_126.2.1.1 zm_126.2.1.2.1 zm_126.2.1.2.2.1 zm_126.2.1.2.2.2 ∈ zT := zcode_of (i := 1145) rfl rfl
set_option maxRecDepth 100000 in
theorem zcd_127 : Jvm.Cond.code zm_127.2.1.1 zm_127.2.1.2.1 zm_127.2.1.2.2.1 zm_127.2.1.2.2.2 ∈ zT := zcode_of (i := 1083) rfl rfl
set_option maxRecDepth 100000 in
theorem zcd_128 : Jvm.Cond.code zm_128.2.1.1 zm_128.2.1.2.1 zm_128.2.1.2.2.1 zm_128.2.1.2.2.2 ∈ zT := zcode_of (i := 1135) rfl rfl
set_option maxRecDepth 100000 in
theorem zcd_129 : Jvm.Cond.code zm_129.2.1.1 zm_129.2.1.2.1 zm_129.2.1.2.2.1 zm_129.2.1.2.2.2 ∈ zT := zcode_of (i := 1092) rfl rfl
set_option maxRecDepth 100000 in
theorem zcd_130 : Jvm.Cond.code zm_130.2.1.1 zm_130.2.1.2.1 zm_130.2.1.2.2.1 zm_130.2.1.2.2.2 ∈ zT := zcode_of (i := 714) rfl rfl
set_option maxRecDepth 100000 in
theorem zcd_131 : Jvm.Cond.code zm_131.2.1.1 zm_131.2.1.2.1 zm_131.2.1.2.2.1 zm_131.2.1.2.2.2 ∈ zT := zcode_of (i := 1119) rfl rfl
set_option maxRecDepth 100000 in
theorem zcd_132 : Jvm.Cond.code zm_132.2.1.1 zm_132.2.1.2.1 zm_132.2.1.2.2.1 zm_132.2.1.2.2.2 ∈ zT := zcode_of (i := 1448) rfl rfl
set_option maxRecDepth 100000 in
theorem zcd_133 : Jvm.Cond.code zm_133.2.1.1 zm_133.2.1.2.1 zm_133.2.1.2.2.1 zm_133.2.1.2.2.2 ∈ zT := zcode_of (i := 1104) rfl rfl
set_option maxRecDepth 100000 in
theorem zcd_134 : Jvm.Cond.code zm_134.2.1.1 zm_134.2.1.2.1 zm_134.2.1.2.2.1 zm_134.2.1.2.2.2 ∈ zT := zcode_of (i := 1108) rfl rfl
set_option maxRecDepth 100000 in
theorem zcd_135 : Jvm.Cond.code zm_135.2.1.1 zm_135.2.1.2.1 zm_135.2.1.2.2.1 zm_135.2.1.2.2.2 ∈ zT := zcode_of (i := 985) rfl rfl
set_option maxRecDepth 100000 in
theorem zcd_136 : Jvm.Cond.code zm_136.2.1.1 zm_136.2.1.2.1 zm_136.2.1.2.2.1 zm_136.2.1.2.2.2 ∈ zT := zcode_of (i := 981) rfl rfl
set_option maxRecDepth 100000 in
theorem zcd_137 : Jvm.Cond.code zm_137.2.1.1 zm_137.2.1.2.1 zm_137.2.1.2.2.1 zm_137.2.1.2.2.2 ∈ zT := zcode_of (i := 1290) rfl rfl
set_option maxRecDepth 100000 in
theorem zcd_138 : Jvm.Cond.code zm_138.2.1.1 zm_138.2.1.2.1 zm_138.2.1.2.2.1 zm_138.2.1.2.2.2 ∈ zT := zcode_of (i := 135) rfl rfl
set_option maxRecDepth 100000 in
theorem zcd_139 : Jvm.Cond.code zm_139.2.1.1 zm_139.2.1.2.1 zm_139.2.1.2.2.1 zm_139.2.1.2.2.2 ∈ zT := zcode_of (i := 586) rfl rfl
set_option maxRecDepth 100000 in
theorem zcd_140 : Jvm.Cond.code zm_140.2.1.1 zm_140.2.1.2.1 zm_140.2.1.2.2.1 zm_140.2.1.2.2.2 ∈ zT := zcode_of (i := 656) rfl rfl
set_option maxRecDepth 100000 in
theorem zcd_141 : Jvm.Cond.code zm_141.2.1.1 zm_141.2.1.2.1 zm_141.2.1.2.2.1 zm_141.2.1.2.2.2 ∈ zT := zcode_of (i := 673) rfl rfl
set_option maxRecDepth 100000 in
theorem zcd_142 : Jvm.Cond.code zm_142.2.1.1 zm_142.2.1.2.1 zm_142.2.1.2.2.1 zm_142.2.1.2.2.2 ∈ zT := zcode_of (i := 683) rfl rfl
set_option maxRecDepth 100000 in
theorem zcd_143 : Jvm.Cond.code zm_143.2.1.1 zm_143.2.1.2.1 zm_143.2.1.2.2.1 zm_143.2.1.2.2.2 ∈ zT := zcode_of (i := 696) rfl rfl
set_option maxRecDepth 100000 in
theorem zcd_144 : Jvm.Cond.code zm_144.2.1.1 zm_144.2.1.2.1 zm_144.2.1.2.2.1 zm_144.2.1.2.2.2 ∈ zT := zcode_of (i := 710) rfl rfl
set_option maxRecDepth 100000 in
theorem zcd_145 : Jvm.Cond.code zm_145.2.1.1 zm_145.2.1.2.1 zm_145.2.1.2.2.1 zm_145.2.1.2.2.2 ∈ zT := zcode_of (i := 719) rfl rfl
set_option maxRecDepth 100000 in
theorem zcd_146 : Jvm.Cond.code zm_146.2.1.1 zm_146.2.1.2.1 zm_146.2.1.2.2.1 zm_146.2.1.2.2.2 ∈ zT := zcode_of (i := 724) rfl rfl
set_option maxRecDepth 100000 in
theorem zcd_147 : Jvm.Cond.code zm_147.2.1.1 zm_147.2.1.2.1 zm_147.2.1.2.2.1 zm_147.2.1.2.2.2 ∈ zT := zcode_of (i := 770) rfl rfl
set_option maxRecDepth 100000 in
theorem zcd_148 : Jvm.Cond.code zm_148.2.1.1 zm_148.2.1.2.1 zm_148.2.1.2.2.1 zm_148.2.1.2.2.2 ∈ zT := zcode_of (i := 781) rfl rfl
set_option maxRecDepth 100000 in
theorem zcd_149 : Jvm.Cond.code zm_149.2.1.1 zm_149.2.1.2.1 zm_149.2.1.2.2.1 zm_149.2.1.2.2.2 ∈ zT := zcode_of (i := 789) rfl rfl
set_option maxRecDepth 100000 in
theorem zcd_150 : Jvm.Cond.code zm_150.2.1.1 zm_150.2.1.2.1 zm_150.2.1.2.2.1 zm_150.2.1.2.2.2 ∈ zT := zcode_of (i := 996) rfl rfl
set_option maxRecDepth 100000 in
theorem zcd_151 : Jvm.Cond.code zm_151.2.1.1 zm_151.2.1.2.1 zm_151.2.1.2.2.1 zm_151.2.1.2.2.2 ∈ zT := zcode_of (i := 1001) rfl rfl
set_option maxRecDepth 100000 in
theorem zcd_152 : Jvm.Cond.code zm_152.2.1.1 zm_152.2.1.2.1 zm_152.2.1.2.2.1 zm_152.2.1.2.2.2 ∈ zT := zcode_of (i := 1005) rfl rfl
set_option maxRecDepth 100000 in
theorem zcd_153 : Jvm.Cond.code zm_153.2.1.1 zm_153.2.1.2.1 zm_153.2.1.2.2.1 zm_153.2.1.2.2.2 ∈ zT := zcode_of (i := 1009) rfl rfl
set_option maxRecDepth 100000 in
theorem zcd_154 : Jvm.Cond.code zm_154.2.1.1 zm_154.2.1.2.1 zm_154.2.1.2.2.1 zm_154.2.1.2.2.2 ∈ zT := zcode_of (i := 1013) rfl rfl
set_option maxRecDepth 100000 in
theorem zcd_155 : Jvm.Cond.code zm_155.2.1.1 zm_155.2.1.2.1 zm_155.2.1.2.2.1 zm_155.2.1.2.2.2 ∈ zT := zcode_of (i := 1017) rfl rfl
set_option maxRecDepth 100000 in
theorem zcd_156 : Jvm.Cond.code zm_156.2.1.1 zm_156.2.1.2.1 zm_156.2.1.2.2.1 zm_156.2.1.2.2.2 ∈ zT := zcode_of (i := 1042) rfl rfl
set_option maxRecDepth 100000 in
theorem zcd_157 : Jvm.Cond.code zm_157.2.1.1 zm_157.2.1.2.1 zm_157.2.1.2.2.1 zm_157.2.1.2.2.2 ∈ zT := zcode_of (i := 1046) rfl rfl
set_option maxRecDepth 100000 in
theorem zcd_158 : Jvm.Cond.code zm_158.2.1.1 zm_158.2.1.2.1 zm_158.2.1.2.2.1 zm_158.2.1.2.2.2 ∈ zT := zcode_of (i := 1063) rfl rfl
set_option maxRecDepth 100000 in
theorem zcd_159 : Jvm.Cond.code zm_159.2.1.1 zm_159.2.1.2.1 zm_159.2.1.2.2.1 zm_159.2.1.2.2.2 ∈ zT := zcode_of (i := 1079) rfl rfl
set_option maxRecDepth 100000 in
theorem zcd_160 : Jvm.Cond.code zm_160.2.1.1 zm_160.2.1.2.1 zm_160.2.1.2.2.1 zm_160.2.1.2.2.2 ∈ zT := zcode_of (i := 1096) rfl rfl
set_option maxRecDepth 100000 in
theorem zcd_161 : Jvm.Cond.code zm_161.2.1.1 zm_161.2.1.2.1 zm_161.2.1.2.2.1 zm_161.2.1.2.2.2 ∈ zT := zcode_of (i := 1100) rfl rfl
set_option maxRecDepth 100000 in
theorem zcd_162 : Jvm.Cond.code zm_162.2.1.1 zm_162.2.1.2.1 zm_162.2.1.2.2.1 zm_162.2.1.2.2.2 ∈ zT := zcode_of (i := 1115) rfl rfl
set_option maxRecDepth 100000 in
theorem zcd_163 : Jvm.Cond.code zm_163.2.1.1 zm_163.2.1.2.1 zm_163.2.1.2.2.1 zm_163.2.1.2.2.2 ∈ zT := zcode_of (i := 1123) rfl rfl
set_option maxRecDepth 100000 in
theorem zcd_164 : Jvm.Cond.code zm_164.2.1.1 zm_164.2.1.2.1 zm_164.2.1.2.2.1 zm_164.2.1.2.2.2 ∈ zT := zcode_of (i := 1127) rfl rfl
set_option maxRecDepth 100000 in
theorem zcd_165 : Jvm.Cond.code zm_165.2.1.1 zm_165.2.1.2.1 zm_165.2.1.2.2.1 zm_165.2.1.2.2.2 ∈ zT := zcode_of (i := 1131) rfl rfl
set_option maxRecDepth 100000 in
theorem zcd_166 : Jvm.Cond.code zm_166.2.1.1 zm_166.2.1.2.1 zm_166.2.1.2.2.1 zm_166.2.1.2.2.2 ∈ zT := zcode_of (i := 1149) rfl rfl
set_option maxRecDepth 100000 in
theorem zcd_167 : Jvm.Cond.code zm_167.2.1.1 zm_167.2.1.2.1 zm_167.2.1.2.2.1 zm_167.2.1.2.2.2 ∈ zT := zcode_of (i := 1157) rfl rfl
set_option maxRecDepth 100000 in
theorem zcd_168 : Jvm.Cond.code zm_168.2.1.1 zm_168.2.1.2.1 zm_168.2.1.2.2.1 zm_168.2.1.2.2.2 ∈ zT := zcode_of (i := 1170) rfl rfl
set_option maxRecDepth 100000 in
theorem zcd_169 : Jvm.Cond.code zm_169.2.1.1 zm_169.2.1.2.1 zm_169.2.1.2.2.1 zm_169.2.1.2.2.2 ∈ zT := zcode_of (i := 1175) rfl rfl
set_option maxRecDepth 100000 in
theorem zcd_170 : Jvm.Cond.code zm_170.2.1.1 zm_170.2.1.2.1 zm_170.2.1.2.2.1 zm_170.2.1.2.2.2 ∈ zT := zcode_of (i := 1179) rfl rfl
set_option maxRecDepth 100000 in
theorem zcd_171 : Jvm.Cond.code zm_171.2.1.1 zm_171.2.1.2.1 zm_171.2.1.2.2.1 zm_171.2.1.2.2.2 ∈ zT := zcode_of (i := 1229) rfl rfl
set_option maxRecDepth 100000 in
theorem zcd_172 : Jvm.Cond.code zm_172.2.1.1 zm_172.2.1.2.1 zm_172.2.1.2.2.1 zm_172.2.1.2.2.2 ∈ zT := zcode_of (i := 1233) rfl rfl
set_option maxRecDepth 100000 in
theorem zcd_173 : Jvm.Cond.code zm_173.2.1.1 zm_173.2.1.2.1 zm_173.2.1.2.2.1 zm_173.2.1.2.2.2 ∈ zT := zcode_of (i := 1237) rfl rfl
set_option maxRecDepth 100000 in
theorem zcd_174 : Jvm.Cond.code zm_174.2.1.1 zm_174.2.1.2.1 zm_174.2.1.2.2.1 zm_174.2.1.2.2.2 ∈ zT := zcode_of (i := 1241) rfl rfl
set_option maxRecDepth 100000 in
theorem zcd_175 : Jvm.Cond.code zm_175.2.1.1 zm_175.2.1.2.1 zm_175.2.1.2.2.1 zm_175.2.1.2.2.2 ∈ zT := zcode_of (i := 1249) rfl rfl
set_option maxRecDepth 100000 in
theorem zcd_176 : Jvm.Cond.code zm_176.2.1.1 zm_176.2.1.2.1 zm_176.2.1.2.2.1 zm_176.2.1.2.2.2 ∈ zT := zcode_of (i := 1259) rfl rfl
set_option maxRecDepth 100000 in
theorem zcd_177 : Jvm.Cond.code zm_177.2.1.1 zm_177.2.1.2.1 zm_177.2.1.2.2.1 zm_177.2.1.2.2.2 ∈ zT := zcode_of (i := 1286) rfl rfl
set_option maxRecDepth 100000 in
theorem zcd_178 : Jvm.Cond.code zm_178.2.1.1 zm_178.2.1.2.1 zm_178.2.1.2.2.1 zm_178.2.1.2.2.2 ∈ zT := zcode_of (i := 1295) rfl rfl
set_option maxRecDepth 100000 in
theorem zcd_179 : Jvm.Cond.code zm_179.2.1.1 zm_179.2.1.2.1 zm_179.2.1.2.2.1 zm_179.2.1.2.2.2 ∈ zT := zcode_of (i := 1299) rfl rfl
set_option maxRecDepth 100000 in
theorem zcd_180 : Jvm.Cond.code zm_180.2.1.1 zm_180.2.1.2.1 zm_180.2.1.2.2.1 zm_180.2.1.2.2.2 ∈ zT := zcode_of (i := 1304) rfl rfl
set_option maxRecDepth 100000 in
theorem zcd_181 : Jvm.Cond.code zm_181.2.1.1 zm_181.2.1.2.1 zm_181.2.1.2.2.1 zm_181.2.1.2.2.2 ∈ zT := zcode_of (i := 1313) rfl rfl
set_option maxRecDepth 100000 in
theorem zcd_182 : Jvm.Cond.code zm_182.2.1.1 zm_182.2.1.2.1 zm_182.2.1.2.2.1 zm_182.2.1.2.2.2 ∈ zT := zcode_of (i := 1329) rfl rfl
set_option maxRecDepth 100000 in
theorem zcd_183 : Jvm.Cond.code zm_183.2.1.1 zm_183.2.1.2.1 zm_183.2.1.2.2.1 zm_183.2.1.2.2.2 ∈ zT := zcode_of (i := 1348) rfl rfl
set_option maxRecDepth 100000 in
theorem zcd_184 : Jvm.Cond.code zm_184.2.1.1 zm_184.2.1.2.1 zm_184.2.1.2.2.1 zm_184.2.1.2.2.2 ∈ zT := zcode_of (i := 1360) rfl rfl
set_option maxRecDepth 100000 in
theorem zcd_185 : Jvm.Cond.code zm_185.2.1.1 zm_185.2.1.2.1 zm_185.2.1.2.2.1 zm_185.2.1.2.2.2 ∈ zT := zcode_of (i := 1371) rfl rfl
set_option maxRecDepth 100000 in
theorem zcd_186 : Jvm.Cond.code zm_186.2.1.1 zm_186.2.1.2.1 zm_186.2.1.2.2.1 zm_186.2.1.2.2.2 ∈ zT := zcode_of (i := 1375) rfl rfl
set_option maxRecDepth 100000 in
theorem zcd_187 : Jvm.Cond.code zm_187.2.1.1 zm_187.2.1.2.1 zm_187.2.1.2.2.1 zm_187.2.1.2.2.2 ∈ zT := zcode_of (i := 1380) rfl rfl
set_option maxRecDepth 100000 in
theorem zcd_188 : Jvm.Cond.code zm_188.2.1.1 zm_188.2.1.2.1 zm_188.2.1.2.2.1 zm_188.2.1.2.2.2 ∈ zT := zcode_of (i := 1389) rfl rfl
set_option maxRecDepth 100000 in
theorem zcd_189 : Jvm.Cond.code zm_189.2.1.1 zm_189.2.1.2.1 zm_189.2.1.2.2.1 zm_189.2.1.2.2.2 ∈ zT := zcode_of (i := 1412) rfl rfl
set_option maxRecDepth 100000 in
theorem zcd_190 : Jvm.Cond.code zm_190.2.1.1 zm_190.2.1.2.1 zm_190.2.1.2.2.1 zm_190.2.1.2.2.2 ∈ zT := zcode_of (i := 1440) rfl rfl
set_option maxRecDepth 100000 in
theorem zcd_191 : Jvm.Cond.code zm_191.2.1.1 zm_191.2.1.2.1 zm_191.2.1.2.2.1 zm_191.2.1.2.2.2 ∈ zT := zcode_of (i := 1444) rfl rfl
set_option maxRecDepth 100000 in
theorem zcd_192 : Jvm.Cond.code zm_192.2.1.1 zm_192.2.1.2.1 zm_192.2.1.2.2.1 zm_192.2.1.2.2.2 ∈ zT := zcode_of (i := 1454) rfl rfl
set_option maxRecDepth 100000 in
theorem zcd_193 : Jvm.Cond.code zm_193.2.1.1 zm_193.2.1.2.1 zm_193.2.1.2.2.1 zm_193.2.1.2.2.2 ∈ zT := zcode_of (i := 1464) rfl rfl
set_option maxRecDepth 100000 in
theorem zcd_194 : Jvm.Cond.code zm_194.2.1.1 zm_194.2.1.2.1 zm_194.2.1.2.2.1 zm_194.2.1.2.2.2 ∈ zT := zcode_of (i := 608) rfl rfl
set_option maxRecDepth 100000 in
theorem zcd_195 : Jvm.Cond.code zm_195.2.1.1 zm_195.2.1.2.1 zm_195.2.1.2.2.1 zm_195.2.1.2.2.2 ∈ zT := zcode_of (i := 727) rfl rfl
set_option maxRecDepth 100000 in
theorem zcd_196 : Jvm.Cond.code zm_196.2.1.1 zm_196.2.1.2.1 zm_196.2.1.2.2.1 zm_196.2.1.2.2.2 ∈ zT := zcode_of (i := 1160) rfl rfl
set_option maxRecDepth 100000 in
theorem zcd_197 : Jvm.Cond.code zm_197.2.1.1 zm_197.2.1.2.1 zm_197.2.1.2.2.1 zm_197.2.1.2.2.2 ∈ zT := zcode_of (i := 700) rfl rfl
set_option maxRecDepth 100000 in
theorem zcd_198 : Jvm.Cond.code zm_198.2.1.1 zm_198.2.1.2.1 zm_198.2.1.2.2.1 zm_198.2.1.2.2.2 ∈ zT := zcode_of (i := 1469) rfl rfl
set_option maxRecDepth 100000 in
theorem zcd_199 : Jvm.Cond.code zm_199.2.1.1 zm_199.2.1.2.1 zm_199.2.1.2.2.1 zm_199.2.1.2.2.2 ∈ zT := zcode_of (i := 1604) rfl rfl
set_option maxRecDepth 100000 in
theorem zcd_200 : Jvm.Cond.code zm_200.2.1.1 zm_200.2.1.2.1 zm_200.2.1.2.2.1 zm_200.2.1.2.2.2 ∈ zT := zcode_of (i := 1601) rfl rfl
set_option maxRecDepth 100000 in
theorem zcd_201 : Jvm.Cond.code zm_201.2.1.1 zm_201.2.1.2.1 zm_201.2.1.2.2.1 zm_201.2.1.2.2.2 ∈ zT := zcode_of (i := 1661) rfl rfl
set_option maxRecDepth 100000 in
theorem zcd_202 : Jvm.Cond.code zm_202.2.1.1 zm_202.2.1.2.1 zm_202.2.1.2.2.1 zm_202.2.1.2.2.2 ∈ zT := zcode_of (i := 1643) rfl rfl
set_option maxRecDepth 100000 in
theorem zcd_203 : Jvm.Cond.code zm_203.2.1.1 zm_203.2.1.2.1 zm_203.2.1.2.2.1 zm_203.2.1.2.2.2 ∈ zT := zcode_of (i := 1627) rfl rfl
set_option maxRecDepth 100000 in
theorem zcd_204 : Jvm.Cond.code zm_204.2.1.1 zm_204.2.1.2.1 zm_204.2.1.2.2.1 zm_204.2.1.2.2.2 ∈ zT := zcode_of (i := 1611) rfl rfl
set_option maxRecDepth 100000 in
theorem zcd_205 : Jvm.Cond.code zm_205.2.1.1 zm_205.2.1.2.1 zm_205.2.1.2.2.1 zm_205.2.1.2.2.2 ∈ zT := zcode_of (i := 1650) rfl rfl
set_option maxRecDepth 100000 in
theorem zcd_206 : Jvm.Cond.code zm_206.2.1.1 zm_206.2.1.2.1 zm_206.2.1.2.2.1 zm_206.2.1.2.2.2 ∈ zT := zcode_of (i := 1618) rfl rfl
set_option maxRecDepth 100000 in
theorem zcd_207 : Jvm.Cond.code zm_207.2.1.1 zm_207.2.1.2.1 zm_207.2.1.2.2.1 zm_207.2.1.2.2.2 ∈ zT := zcode_of (i := 1989) rfl rfl
set_option maxRecDepth 100000 in
theorem zcd_208 : Jvm.Cond.code zm_208.2.1.1 zm_208.2.1.2.1 zm_208.2.1.2.2.1 zm_208.2.1.2.2.2 ∈ zT := zcode_of (i := 1631) rfl rfl
set_option maxRecDepth 100000 in
theorem zcd_209 : Jvm.Cond.code zm_209.2.1.1 zm_209.2.1.2.1 zm_209.2.1.2.2.1 zm_209.2.1.2.2.2 ∈ zT := zcode_of (i := 1623) rfl rfl
set_option maxRecDepth 100000 in
theorem zcd_210 : Jvm.Cond.code zm_210.2.1.1 zm_210.2.1.2.1 zm_210.2.1.2.2.1 zm_210.2.1.2.2.2 ∈ zT := zcode_of (i := 1688) rfl rfl
set_option maxRecDepth 100000 in
theorem zcd_211 : Jvm.Cond.code zm_211.2.1.1 zm_211.2.1.2.1 zm_211.2.1.2.2.1 zm_211.2.1.2.2.2 ∈ zT := zcode_of (i := 1608) rfl rfl
set_option maxRecDepth 100000 in
theorem zcd_212 : Jvm.Cond.code zm_212.2.1.1 zm_212.2.1.2.1 zm_212.2.1.2.2.1 zm_212.2.1.2.2.2 ∈ zT := zcode_of (i := 1598) rfl rfl
set_option maxRecDepth 100000 in
theorem zcd_213 : Jvm.Cond.code zm_213.2.1.1 zm_213.2.1.2.1 zm_213.2.1.2.2.1 zm_213.2.1.2.2.2 ∈ zT := zcode_of (i := 1615) rfl rfl
set_option maxRecDepth 100000 in
theorem zcd_214 : Jvm.Cond.code zm_214.2.1.1 zm_214.2.1.2.1 zm_214.2.1.2.2.1 zm_214.2.1.2.2.2 ∈ zT := zcode_of (i := 1635) rfl rfl
set_option maxRecDepth 100000 in
theorem zcd_215 : Jvm.Cond.code zm_215.2.1.1 zm_215.2.1.2.1 zm_215.2.1.2.2.1 zm_215.2.1.2.2.2 ∈ zT := zcode_of (i := 1639) rfl rfl
set_option maxRecDepth 100000 in
theorem zcd_216 : Jvm.Cond.code zm_216.2.1.1 zm_216.2.1.2.1 zm_216.2.1.2.2.1 zm_216.2.1.2.2.2 ∈ zT := zcode_of (i := 1647) rfl rfl
set_option maxRecDepth 100000 in
theorem zcd_217 : Jvm.Cond.code zm_217.2.1.1 zm_217.2.1.2.1 zm_217.2.1.2.2.1 zm_217.2.1.2.2.2 ∈ zT := zcode_of (i := 1654) rfl rfl
set_option maxRecDepth 100000 in
theorem zcd_218 : Jvm.Cond.code zm_218.2.1.1 zm_218.2.1.2.1 zm_218.2.1.2.2.1 zm_218.2.1.2.2.2 ∈ zT := zcode_of (i := 1672) rfl rfl
set_option maxRecDepth 100000 in
theorem zcd_219 : Jvm.Cond.code zm_219.2.1.1 zm_219.2.1.2.1 zm_219.2.1.2.2.1 zm_219.2.1.2.2.2 ∈ zT := zcode_of (i := 1676) rfl rfl
set_option maxRecDepth 100000 in
theorem zcd_220 : Jvm.Cond.code zm_220.2.1.1 zm_220.2.1.2.1 zm_220.2.1.2.2.1 zm_220.2.1.2.2.2 ∈ zT := zcode_of (i := 1669) rfl rfl
set_option maxRecDepth 100000 in
theorem zcd_221 : Jvm.Cond.code zm_221.2.1.1 zm_221.2.1.2.1 zm_221.2.1.2.2.1 zm_221.2.1.2.2.2 ∈ zT := zcode_of (i := 1665) rfl rfl
set_option maxRecDepth 100000 in
theorem zcd_222 : Jvm.Cond.code zm_222.2.1.1 zm_222.2.1.2.1 zm_222.2.1.2.2.1 zm_222.2.1.2.2.2 ∈ zT := zcode_of (i := 1658) rfl rfl
set_option maxRecDepth 100000 in
theorem zcd_223 : Jvm.Cond.code zm_223.2.1.1 zm_223.2.1.2.1 zm_223.2.1.2.2.1 zm_223.2.1.2.2.2 ∈ zT := zcode_of (i := 1684) rfl rfl
set_option maxRecDepth 100000 in
theorem zcd_224 : Jvm.Cond.code zm_224.2.1.1 zm_224.2.1.2.1 zm_224.2.1.2.2.1 zm_224.2.1.2.2.2 ∈ zT := zcode_of (i := 1680) rfl rfl
set_option maxRecDepth 100000 in
theorem zcd_225 : Jvm.Cond.code zm_225.2.1.1 zm_225.2.1.2.1 zm_225.2.1.2.2.1 zm_225.2.1.2.2.2 ∈ zT := zcode_of (i := 1696) rfl rfl
set_option maxRecDepth 100000 in
theorem zcd_226 : Jvm.Cond.code zm_226.2.1.1 zm_226.2.1.2.1 zm_226.2.1.2.2.1 zm_226.2.1.2.2.2 ∈ zT := zcode_of (i := 1692) rfl rfl
set_option maxRecDepth 100000 in
theorem zcd_227 : Jvm.Cond.code zm_227.2.1.1 zm_227.2.1.2.1 zm_227.2.1.2.2.1 zm_227.2.1.2.2.2 ∈ zT := zcode_of (i := 1701) rfl rfl
set_option maxRecDepth 100000 in
theorem zcd_228 : Jvm.Cond.code zm_228.2.1.1 zm_228.2.1.2.1 zm_228.2.1.2.2.1 zm_228.2.1.2.2.2 ∈ zT := zcode_of (i := 1718) rfl rfl
set_option maxRecDepth 100000 in
theorem zcd_229 : Jvm.Cond.code zm_229.2.1.1 zm_229.2.1.2.1 zm_229.2.1.2.2.1 zm_229.2.1.2.2.2 ∈ zT := zcode_of (i := 1714) rfl rfl
set_option maxRecDepth 100000 in
theorem zcd_230 : Jvm.Cond.code zm_230.2.1.1 zm_230.2.1.2.1 zm_230.2.1.2.2.1 zm_230.2.1.2.2.2 ∈ zT := zcode_of (i := 1727) rfl rfl
set_option maxRecDepth 100000 in
theorem zcd_231 : Jvm.Cond.code zm_231.2.1.1 zm_231.2.1.2.1 zm_231.2.1.2.2.1 zm_231.2.1.2.2.2 ∈ zT := zcode_of (i := 1764) rfl rfl
set_option maxRecDepth 100000 in
theorem zcd_232 : Jvm.Cond.code zm_232.2.1.1 zm_232.2.1.2.1 zm_232.2.1.2.2.1 zm_232.2.1.2.2.2 ∈ zT := zcode_of (i := 1737) rfl rfl
set_option maxRecDepth 100000 in
theorem zcd_233 : Jvm.Cond.code zm_233.2.1.1 zm_233.2.1.2.1 zm_233.2.1.2.2.1 zm_233.2.1.2.2.2 ∈ zT := zcode_of (i := 1733) rfl rfl
set_option maxRecDepth 100000 in
theorem zcd_234 : Jvm.Cond.code zm_234.2.1.1 zm_234.2.1.2.1 zm_234.2.1.2.2.1 zm_234.2.1.2.2.2 ∈ zT := zcode_of (i := 1775) rfl rfl
set_option maxRecDepth 100000 in
theorem zcd_235 : Jvm.Cond.code zm_235.2.1.1 zm_235.2.1.2.1 zm_235.2.1.2.2.1 zm_235.2.1.2.2.2 ∈ zT := zcode_of (i := 1751) rfl rfl
set_option maxRecDepth 100000 in
theorem zcd_236 : Jvm.Cond.code zm_236.2.1.1 zm_236.2.1.2.1 zm_236.2.1.2.2.1 zm_236.2.1.2.2.2 ∈ zT := zcode_of (i := 1755) rfl rfl
set_option maxRecDepth 100000 in
theorem zcd_237 : Jvm.Cond.code zm_237.2.1.1 zm_237.2.1.2.1 zm_237.2.1.2.2.1 zm_237.2.1.2.2.2 ∈ zT := zcode_of (i := 1759) rfl rfl
set_option maxRecDepth 100000 in
theorem zcd_238 : Jvm.Cond.code zm_238.2.1.1 zm_238.2.1.2.1 zm_238.2.1.2.2.1 zm_238.2.1.2.2.2 ∈ zT := zcode_of (i := 1781) rfl rfl
set_option maxRecDepth 100000 in
theorem zcd_239 : Jvm.Cond.code zm_239.2.1.1 zm_239.2.1.2.1 zm_239.2.1.2.2.1 zm_239.2.1.2.2.2 ∈ zT := zcode_of (i := 1746) rfl rfl
set_option maxRecDepth 100000 in
theorem zcd_240 : Jvm.Cond.code zm_240.2.1.1 zm_240.2.1.2.1 zm_240.2.1.2.2.1 zm_240.2.1.2.2.2 ∈ zT := zcode_of (i := 1722) rfl rfl
set_option maxRecDepth 100000 in
theorem zcd_241 : Jvm.Cond.code zm_241.2.1.1 zm_241.2.1.2.1 zm_241.2.1.2.2.1 zm_241.2.1.2.2.2 ∈ zT := zcode_of (i := 1710) rfl rfl
set_option maxRecDepth 100000 in
theorem zcd_242 : Jvm.Cond.code zm_242.2.1.1 zm_242.2.1.2.1 zm_242.2.1.2.2.1 zm_242.2.1.2.2.2 ∈ zT := zcode_of (i := 1706) rfl rfl
set_option maxRecDepth 100000 in
theorem zcd_243 : Jvm.Cond.code zm_243.2.1.1 zm_243.2.1.2.1 zm_243.2.1.2.2.1 zm_243.2.1.2.2.2 ∈ zT := zcode_of (i := 1787) rfl rfl
set_option maxRecDepth 100000 in
theorem zcd_244 : Jvm.Cond.code zm_244.2.1.1 zm_244.2.1.2.1 zm_244.2.1.2.2.1 zm_244.2.1.2.2.2 ∈ zT := zcode_of (i := 1791) rfl rfl
set_option maxRecDepth 100000 in
theorem zcd_245 : Jvm.Cond.code zm_245.2.1.1 zm_245.2.1.2.1 zm_245.2.1.2.2.1 zm_245.2.1.2.2.2 ∈ zT := zcode_of (i := 1795) rfl rfl
set_option maxRecDepth 100000 in
theorem zcd_246 : Jvm.Cond.code zm_246.2.1.1 zm_246.2.1.2.1 zm_246.2.1.2.2.1 zm_246.2.1.2.2.2 ∈ zT := zcode_of (i := 1799) rfl rfl
set_option maxRecDepth 100000 in
theorem zcd_247 : Jvm.Cond.code zm_247.2.1.1 zm_247.2.1.2.1 zm_247.2.1.2.2.1 zm_247.2.1.2.2.2 ∈ zT := zcode_of (i := 1830) rfl rfl
set_option maxRecDepth 100000 in
theorem zcd_248 : Jvm.Cond.code zm_248.2.1.1 zm_248.2.1.2.1 zm_248.2.1.2.2.1 zm_248.2.1.2.2.2 ∈ zT := zcode_of (i := 1823) rfl rfl
set_option maxRecDepth 100000 in
theorem zcd_249 : Jvm.Cond.code zm_249.2.1.1 zm_249.2.1.2.1 zm_249.2.1.2.2.1 zm_249.2.1.2.2.2 ∈ zT := zcode_of (i := 1827) rfl rfl
set_option maxRecDepth 100000 in
theorem zcd_250 : Jvm.Cond.code zm_250.2.1.1 zm_250.2.1.2.1 zm_250.2.1.2.2.1 zm_250.2.1.2.2.2 ∈ zT := zcode_of (i := 1819) rfl rfl
set_option maxRecDepth 100000 in
theorem zcd_251 : Jvm.Cond.code zm_251.2.1.1 zm_251.2.1.2.1 zm_251.2.1.2.2.1 zm_251.2.1.2.2.2 ∈ zT := zcode_of (i := 1834) rfl rfl
set_option maxRecDepth 100000 in
theorem zcd_252 : Jvm.Cond.code zm_252.2.1.1 zm_252.2.1.2.1 zm_252.2.1.2.2.1 zm_252.2.1.2.2.2 ∈ zT := zcode_of (i := 1815) rfl rfl
set_option maxRecDepth 100000 in
theorem zcd_253 : Jvm.Cond.code zm_253.2.1.1 zm_253.2.1.2.1 zm_253.2.1.2.2.1 zm_253.2.1.2.2.2 ∈ zT := zcode_of (i := 1811) rfl rfl
set_option maxRecDepth 100000 in
theorem zcd_254 : Jvm.Cond.code zm_254.2.1.1 zm_254.2.1.2.1 zm_254.2.1.2.2.1 zm_254.2.1.2.2.2 ∈ zT := zcode_of (i := 1807) rfl rfl
set_option maxRecDepth 100000 in
theorem zcd_255 : Jvm.Cond.code zm_255.2.1.1 zm_255.2.1.2.1 zm_255.2.1.2.2.1 zm_255.2.1.2.2.2 ∈ zT := zcode_of (i := 1803) rfl rfl
set_option maxRecDepth 100000 in
theorem zcd_256 : Jvm.Cond.code zm_256.2.1.1 zm_256.2.1.2.1 zm_256.2.1.2.2.1 zm_256.2.1.2.2.2 ∈ zT := zcode_of (i := 1838) rfl rfl
set_option maxRecDepth 100000 in
theorem zcd_257 : Jvm.Cond.code zm_257.2.1.1 zm_257.2.1.2.1 zm_257.2.1.2.2.1 zm_257.2.1.2.2.2 ∈ zT := zcode_of (i := 1850) rfl rfl
set_option maxRecDepth 100000 in
theorem zcd_258 : Jvm.Cond.code zm_258.2.1.1 zm_258.2.1.2.1 zm_258.2.1.2.2.1 zm_258.2.1.2.2.2 ∈ zT := zcode_of (i := 1846) rfl rfl
set_option maxRecDepth 100000 in
theorem zcd_259 : Jvm.Cond.code zm_259.2.1.1 zm_259.2.1.2.1 zm_259.2.1.2.2.1 zm_259.2.1.2.2.2 ∈ zT := zcode_of (i := 1874) rfl rfl
set_option maxRecDepth 100000 in
theorem zcd_260 : Jvm.Cond.code zm_260.2.1.1 zm_260.2.1.2.1 zm_260.2.1.2.2.1 zm_260.2.1.2.2.2 ∈ zT := zcode_of (i := 1842) rfl rfl
set_option maxRecDepth 100000 in
theorem zcd_261 : Jvm.Cond.code zm_261.2.1.1 zm_261.2.1.2.1 zm_261.2.1.2.2.1 zm_261.2.1.2.2.2 ∈ zT := zcode_of (i := 1854) rfl rfl
set_option maxRecDepth 100000 in
theorem zcd_262 : Jvm.Cond.code zm_262.2.1.1 zm_262.2.1.2.1 zm_262.2.1.2.2.1 zm_262.2.1.2.2.2 ∈ zT := zcode_of (i := 1862) rfl rfl
set_option maxRecDepth 100000 in
theorem zcd_263 : Jvm.Cond.code zm_263.2.1.1 zm_263.2.1.2.1 zm_263.2.1.2.2.1 zm_263.2.1.2.2.2 ∈ zT := zcode_of (i := 1858) rfl rfl
set_option maxRecDepth 100000 in
theorem zcd_264 : Jvm.Cond.code zm_264.2.1.1 zm_264.2.1.2.1 zm_264.2.1.2.2.1 zm_264.2.1.2.2.2 ∈ zT := zcode_of (i := 1878) rfl rfl
set_option maxRecDepth 100000 in
theorem zcd_265 : Jvm.Cond.code zm_265.2.1.1 zm_265.2.1.2.1 zm_265.2.1.2.2.1 zm_265.2.1.2.2.2 ∈ zT := zcode_of (i := 1870) rfl rfl
set_option maxRecDepth 100000 in
theorem zcd_266 : Jvm.Cond.code zm_266.2.1.1 zm_266.2.1.2.1 zm_266.2.1.2.2.1 zm_266.2.1.2.2.2 ∈ zT := zcode_of (i := 1866) rfl rfl
set_option maxRecDepth 100000 in
theorem zcd_267 : Jvm.Cond.code zm_267.2.1.1 zm_267.2.1.2.1 zm_267.2.1.2.2.1 zm_267.2.1.2.2.2 ∈ zT := zcode_of (i := 1882) rfl rfl
set_option maxRecDepth 100000 in
theorem zcd_268 : Jvm.Cond.code zm_268.2.1.1 zm_268.2.1.2.1 zm_268.2.1.2.2.1 zm_268.2.1.2.2.2 ∈ zT := zcode_of (i := 1890) rfl rfl
set_option maxRecDepth 100000 in
theorem zcd_269 : Jvm.Cond.code zm_269.2.1.1 zm_269.2.1.2.1 zm_269.2.1.2.2.1 zm_269.2.1.2.2.2 ∈ zT := zcode_of (i := 1886) rfl rfl
set_option maxRecDepth 100000 in
theorem zcd_270 : Jvm.Cond.code zm_270.2.1.1 zm_270.2.1.2.1 zm_270.2.1.2.2.1 zm_270.2.1.2.2.2 ∈ zT := zcode_of (i := 1894) rfl rfl
set_option maxRecDepth 100000 in
theorem zcd_271 : Jvm.Cond.code zm_271.2.1.1 zm_271.2.1.2.1 zm_271.2.1.2.2.1 zm_271.2.1.2.2.2 ∈ zT := zcode_of (i := 1898) rfl rfl
set_option maxRecDepth 100000 in
theorem zcd_272 : Jvm.Cond.code zm_272.2.1.1 zm_272.2.1.2.1 zm_272.2.1.2.2.1 zm_272.2.1.2.2.2 ∈ zT := zcode_of (i := 1902) rfl rfl
set_option maxRecDepth 100000 in
theorem zcd_273 : Jvm.Cond.code zm_273.2.1.1 zm_273.2.1.2.1 zm_273.2.1.2.2.1 zm_273.2.1.2.2.2 ∈ zT := zcode_of (i := 1910) rfl rfl
set_option maxRecDepth 100000 in
theorem zcd_274 : Jvm.Cond.code zm_274.2.1.1 zm_274.2.1.2.1 zm_274.2.1.2.2.1 zm_274.2.1.2.2.2 ∈ zT := zcode_of (i := 1906) rfl rfl
set_option maxRecDepth 100000 in
theorem zcd_275 : Jvm.Cond.code zm_275.2.1.1 zm_275.2.1.2.1 zm_275.2.1.2.2.1 zm_275.2.1.2.2.2 ∈ zT := zcode_of (i := 1914) rfl rfl
set_option maxRecDepth 100000 in
theorem zcd_276 : Jvm.Cond.code zm_276.2.1.1 zm_276.2.1.2.1 zm_276.2.1.2.2.1 zm_276.2.1.2.2.2 ∈ zT := zcode_of (i := 1919) rfl rfl
set_option maxRecDepth 100000 in
theorem zcd_277 : Jvm.Cond.code zm_277.2.1.1 zm_277.2.1.2.1 zm_277.2.1.2.2.1 zm_277.2.1.2.2.2 ∈ zT := zcode_of (i := 1927) rfl rfl
set_option maxRecDepth 100000 in
theorem zcd_278 : Jvm.Cond.code zm_278.2.1.1 zm_278.2.1.2.1 zm_278.2.1.2.2.1 zm_278.2.1.2.2.2 ∈ zT := zcode_of (i := 1923) rfl rfl
set_option maxRecDepth 100000 in
theorem zcd_279 : Jvm.Cond.code zm_279.2.1.1 zm_279.2.1.2.1 zm_279.2.1.2.2.1 zm_279.2.1.2.2.2 ∈ zT := zcode_of (i := 1931) rfl rfl
set_option maxRecDepth 100000 in
theorem zcd_280 : Jvm.Cond.code zm_280.2.1.1 zm_280.2.1.2.1 zm_280.2.1.2.2.1 zm_280.2.1.2.2.2 ∈ zT := zcode_of (i := 1939) rfl rfl
set_option maxRecDepth 100000 in
theorem zcd_281 : Jvm.Cond.code zm_281.2.1.1 zm_281.2.1.2.1 zm_281.2.1.2.2.1 zm_281.2.1.2.2.2 ∈ zT := zcode_of (i := 1943) rfl rfl
set_option maxRecDepth 100000 in
theorem zcd_282 : Jvm.Cond.code zm_282.2.1.1 zm_282.2.1.2.1 zm_282.2.1.2.2.1 zm_282.2.1.2.2.2 ∈ zT := zcode_of (i := 1935) rfl rfl
set_option maxRecDepth 100000 in
theorem zcd_283 : Jvm.Cond.code zm_283.2.1.1 zm_283.2.1.2.1 zm_283.2.1.2.2.1 zm_283.2.1.2.2.2 ∈ zT := zcode_of (i := 1955) rfl rfl
set_option maxRecDepth 100000 in
theorem zcd_284 : Jvm.Cond.code zm_284.2.1.1 zm_284.2.1.2.1 zm_284.2.1.2.2.1 zm_284.2.1.2.2.2 ∈ zT := zcode_of (i := 1951) rfl rfl
set_option maxRecDepth 100000 in
theorem zcd_285 : Jvm.Cond.code zm_285.2.1.1 zm_285.2.1.2.1 zm_285.2.1.2.2.1 zm_285.2.1.2.2.2 ∈ zT := zcode_of (i := 1947) rfl rfl
set_option maxRecDepth 100000 in
theorem zcd_286 : Jvm.Cond.code zm_286.2.1.1 zm_286.2.1.2.1 zm_286.2.1.2.2.1 zm_286.2.1.2.2.2 ∈ zT := zcode_of (i := 1966) rfl rfl
set_option maxRecDepth 100000 in
theorem zcd_287 : Jvm.Cond.code zm_287.2.1.1 zm_287.2.1.2.1 zm_287.2.1.2.2.1 zm_287.2.1.2.2.2 ∈ zT := zcode_of (i := 1962) rfl rfl
set_option maxRecDepth 100000 in
theorem zcd_288 : Jvm.Cond.code zm_288.2.1.1 zm_288.2.1.2.1 zm_288.2.1.2.2.1 zm_288.2.1.2.2.2 ∈ zT := zcode_of (i := 1970) rfl rfl
set_option maxRecDepth 100000 in
theorem zcd_289 : Jvm.Cond.code zm_289.2.1.1 zm_289.2.1.2.1 zm_289.2.1.2.2.1 zm_289.2.1.2.2.2 ∈ zT := zcode_of (i := 1974) rfl rfl
set_option maxRecDepth 100000 in
theorem zcd_290 : Jvm.Cond.code zm_290.2.1.1 zm_290.2.1.2.1 zm_290.2.1.2.2.1 zm_290.2.1.2.2.2 ∈ zT := zcode_of (i := 1978) rfl rfl
set_option maxRecDepth 100000 in
theorem zcd_291 : Jvm.Cond.code zm_291.2.1.1 zm_291.2.1.2.1 zm_291.2.1.2.2.1 zm_291.2.1.2.2.2 ∈ zT := zcode_of (i := 1982) rfl rfl
set_option maxRecDepth 100000 in
theorem zcd_292 : Jvm.Cond.code zm_292.2.1.1 zm_292.2.1.2.1 zm_292.2.1.2.2.1 zm_292.2.1.2.2.2 ∈ zT := zcode_of (i := 1986) rfl rfl
set_option maxRecDepth 100000 in
theorem zcd_293 : Jvm.Cond.code zm_293.2.1.1 zm_293.2.1.2.1 zm_293.2.1.2.2.1 zm_293.2.1.2.2.2 ∈ zT := zcode_of (i := 1993) rfl rfl
set_option maxRecDepth 100000 in
theorem zcd_294 : Jvm.Cond.code zm_294.2.1.1 zm_294.2.1.2.1 zm_294.2.1.2.2.1 zm_294.2.1.2.2.2 ∈ zT := zcode_of (i := 1997) rfl rfl
set_option maxRecDepth 100000 in
theorem zcd_295 : Jvm.Cond.code zm_295.2.1.1 zm_295.2.1.2.1 zm_295.2.1.2.2.1 zm_295.2.1.2.2.2 ∈ zT := zcode_of (i := 2001) rfl rfl
set_option maxRecDepth 100000 in
theorem zcd_296 : Jvm.Cond.code zm_296.2.1.1 zm_296.2.1.2.1 zm_296.2.1.2.2.1 zm_296.2.1.2.2.2 ∈ zT := zcode_of (i := 2005) rfl rfl
set_option maxRecDepth 100000 in
theorem zcd_297 : Jvm.Cond.code zm_297.2.1.1 zm_297.2.1.2.1 zm_297.2.1.2.2.1 zm_297.2.1.2.2.2 ∈ zT := zcode_of (i := 2013) rfl rfl
set_option maxRecDepth 100000 in
theorem zcd_298 : Jvm.Cond.code zm_298.2.1.1 zm_298.2.1.2.1 zm_298.2.1.2.2.1 zm_298.2.1.2.2.2 ∈ zT := zcode_of (i := 2009) rfl rfl
set_option maxRecDepth 100000 in
theorem zcd_299 : Jvm.Cond.code zm_299.2.1.1 zm_299.2.1.2.1 zm_299.2.1.2.2.1 zm_299.2.1.2.2.2 ∈ zT := zcode_of (i := 2017) rfl rfl
set_option maxRecDepth 100000 in
theorem zcd_300 : Jvm.Cond.code zm_300.2.1.1 zm_300.2.1.2.1 zm_300.2.1.2.2.1 zm_300.2.1.2.2.2 ∈ zT := zcode_of (i := 2025) rfl rfl
set_option maxRecDepth 100000 in
theorem zcd_301 : Jvm.Cond.code zm_301.2.1.1 zm_301.2.1.2.1 zm_301.2.1.2.2.1 zm_301.2.1.2.2.2 ∈ zT := zcode_of (i := 2022) rfl rfl
set_option maxRecDepth 100000 in
theorem zcd_302 : Jvm.Cond.code zm_302.2.1.1 zm_302.2.1.2.1 zm_302.2.1.2.2.1 zm_302.2.1.2.2.2 ∈ zT := zcode_of (i := 2029) rfl rfl
set_option maxRecDepth 100000 in
theorem zcd_303 : Jvm.Cond.code zm_303.2.1.1 zm_303.2.1.2.1 zm_303.2.1.2.2.1 zm_303.2.1.2.2.2 ∈ zT := zcode_of (i := 2037) rfl rfl
set_option maxRecDepth 100000 in
theorem zcd_304 : Jvm.Cond.code zm_304.2.1.1 zm_304.2.1.2.1 zm_304.2.1.2.2.1 zm_304.2.1.2.2.2 ∈ zT := zcode_of (i := 2033) rfl rfl
set_option maxRecDepth 100000 in
theorem zcd_305 : Jvm.Cond.code zm_305.2.1.1 zm_305.2.1.2.1 zm_305.2.1.2.2.1 zm_305.2.1.2.2.2 ∈ zT := zcode_of (i := 2041) rfl rfl
set_option maxRecDepth 100000 in
theorem zcd_306 : Jvm.Cond.code zm_306.2.1.1 zm_306.2.1.2.1 zm_306.2.1.2.2.1 zm_306.2.1.2.2.2 ∈ zT := zcode_of (i := 2046) rfl rfl
set_option maxRecDepth 100000 in
theorem zcd_307 : Jvm.Cond.code zm_307.2.1.1 zm_307.2.1.2.1 zm_307.2.1.2.2.1 zm_307.2.1.2.2.2 ∈ zT := zcode_of (i := 2054) rfl rfl
set_option maxRecDepth 100000 in
theorem zcd_308 : Jvm.Cond.code zm_308.2.1.1 zm_308.2.1.2.1 zm_308.2.1.2.2.1 zm_308.2.1.2.2.2 ∈ zT := zcode_of (i := 2057) rfl rfl
set_option maxRecDepth 100000 in
theorem zcd_309 : Jvm.Cond.code zm_309.2.1.1 zm_309.2.1.2.1 zm_309.2.1.2.2.1 zm_309.2.1.2.2.2 ∈ zT := zcode_of (i := 2050) rfl rfl
set_option maxRecDepth 100000 in
theorem zcd_310 : Jvm.Cond.code zm_310.2.1.1 zm_310.2.1.2.1 zm_310.2.1.2.2.1 zm_310.2.1.2.2.2 ∈ zT := zcode_of (i := 2080) rfl rfl
set_option maxRecDepth 100000 in
theorem zcd_311 : Jvm.Cond.code zm_311.2.1.1 zm_311.2.1.2.1 zm_311.2.1.2.2.1 zm_311.2.1.2.2.2 ∈ zT := zcode_of (i := 2069) rfl rfl
set_option maxRecDepth 100000 in
theorem zcd_312 : Jvm.Cond.code zm_312.2.1.1 zm_312.2.1.2.1 zm_312.2.1.2.2.1 zm_312.2.1.2.2.2 ∈ zT := zcode_of (i := 2072) rfl rfl
set_option maxRecDepth 100000 in
theorem zcd_313 : Jvm.Cond.code zm_313.2.1.1 zm_313.2.1.2.1 zm_313.2.1.2.2.1 zm_313.2.1.2.2.2 ∈ zT := zcode_of (i := 2065) rfl rfl
set_option maxRecDepth 100000 in
theorem zcd_314 : Jvm.Cond.code zm_314.2.1.1 zm_314.2.1.2.1 zm_314.2.1.2.2.1 zm_314.2.1.2.2.2 ∈ zT := zcode_of (i := 2084) rfl rfl
set_option maxRecDepth 100000 in
theorem zcd_315 : Jvm.Cond.code zm_315.2.1.1 zm_315.2.1.2.1 zm_315.2.1.2.2.1 zm_315.2.1.2.2.2 ∈ zT := zcode_of (i := 2076) rfl rfl
set_option maxRecDepth 100000 in
theorem zcd_316 : Jvm.Cond.code zm_316.2.1.1 zm_316.2.1.2.1 zm_316.2.1.2.2.1 zm_316.2.1.2.2.2 ∈ zT := zcode_of (i := 2061) rfl rfl
set_option maxRecDepth 100000 in
theorem zcd_317 : Jvm.Cond.code zm_317.2.1.1 zm_317.2.1.2.1 zm_317.2.1.2.2.1 zm_317.2.1.2.2.2 ∈ zT := zcode_of (i := 2088) rfl rfl
set_option maxRecDepth 100000 in
theorem zcd_318 : Jvm.Cond.code zm_318.2.1.1 zm_318.2.1.2.1 zm_318.2.1.2.2.1 zm_318.2.1.2.2.2 ∈ zT := zcode_of (i := 2092) rfl rfl
set_option maxRecDepth 100000 in
theorem zcd_319 : Jvm.Cond.code zm_319.2.1.1 zm_319.2.1.2.1 zm_319.2.1.2.2.1 zm_319.2.1.2.2.2 ∈ zT := zcode_of (i := 2096) rfl rfl
set_option maxRecDepth 100000 in
theorem zcd_320 : Jvm.Cond.code zm_320.2.1.1 zm_320.2.1.2.1 zm_320.2.1.2.2.1 zm_320.2.1.2.2.2 ∈ zT := zcode_of (i := 2100) rfl rfl
set_option maxRecDepth 100000 in
theorem zcd_321 : Jvm.Cond.code zm_321.2.1.1 zm_321.2.1.2.1 zm_321.2.1.2.2.1 zm_321.2.1.2.2.2 ∈ zT := zcode_of (i := 1275) rfl rfl
set_option maxRecDepth 100000 in
theorem zcd_322 : Jvm.Cond.code zm_322.2.1.1 zm_322.2.1.2.1 zm_322.2.1.2.2.1 zm_322.2.1.2.2.2 ∈ zT := zcode_of (i := 1111) rfl rfl
set_option maxRecDepth 100000 in
theorem zcd_323 : Jvm.Cond.code zm_323.2.1.1 zm_323.2.1.2.1 zm_323.2.1.2.2.1 zm_323.2.1.2.2.2 ∈ zT := zcode_of (i := 641) rfl rfl
set_option maxRecDepth 100000 in
theorem zcd_324 : Jvm.Cond.code zm_324.2.1.1 zm_324.2.1.2.1 zm_324.2.1.2.2.1 zm_324.2.1.2.2.2 ∈ zT := zcode_of (i := 777) rfl rfl
set_option maxRecDepth 100000 in
theorem zcd_325 : Jvm.Cond.code zm_325.2.1.1 zm_325.2.1.2.1 zm_325.2.1.2.2.1 zm_325.2.1.2.2.2 ∈ zT := zcode_of (i := 1958) rfl rfl
set_option maxRecDepth 100000 in
theorem zcd_326 : Jvm.Cond.code zm_326.2.1.1 zm_326.2.1.2.1 zm_326.2.1.2.2.1 zm_326.2.1.2.2.2 ∈ zT := zcode_of (i := 813) rfl rfl
set_option maxRecDepth 100000 in
theorem zcd_327 : Jvm.Cond.code zm_327.2.1.1 zm_327.2.1.2.1 zm_327.2.1.2.2.1 zm_327.2.1.2.2.2 ∈ zT := zcode_of (i := 823) rfl rfl
set_option maxRecDepth 100000 in
theorem zcd_328 : Jvm.Cond.code zm_328.2.1.1 zm_328.2.1.2.1 zm_328.2.1.2.2.1 zm_328.2.1.2.2.2 ∈ zT := zcode_of (i := 817) rfl rfl
set_option maxRecDepth 100000 in
theorem zcd_329 : Jvm.Cond.code zm_329.2.1.1 zm_329.2.1.2.1 zm_329.2.1.2.2.1 zm_329.2.1.2.2.2 ∈ zT := zcode_of (i := 827) rfl rfl
set_option maxRecDepth 100000 in
theorem zcd_330 : Jvm.Cond.code zm_330.2.1.1 zm_330.2.1.2.1 zm_330.2.1.2.2.1 zm_330.2.1.2.2.2 ∈ zT := zcode_of (i := 833) rfl rfl
set_option maxRecDepth 100000 in
theorem zcd_331 : Jvm.Cond.code zm_331.2.1.1 zm_331.2.1.2.1 zm_331.2.1.2.2.1 zm_331.2.1.2.2.2 ∈ zT := zcode_of (i := 830) rfl rfl
set_option maxRecDepth 100000 in
theorem zcd_332 : Jvm.Cond.code zm_332.2.1.1 zm_332.2.1.2.1 zm_332.2.1.2.2.1 zm_332.2.1.2.2.2 ∈ zT := zcode_of (i := 605) rfl rfl
set_option maxRecDepth 100000 in
theorem zcd_333 : Jvm.Cond.code zm_333.2.1.1 zm_333.2.1.2.1 zm_333.2.1.2.2.1 zm_333.2.1.2.2.2 ∈ zT := zcode_of (i := 838) rfl rfl
theorem zpc_0 : ∀ q ∈ (zpr_0.drop 1), Jvm.Cond.code q.2.1.1 q.2.1.2.1 q.2.1.2.2.1 q.2.1.2.2.2 ∈ zT := List.forall_mem_cons.mpr ⟨zcd_1, List.forall_mem_cons.mpr ⟨zcd_2, List.forall_mem_cons.mpr ⟨zcd_3, List.forall_mem_cons.mpr ⟨zcd_4, List.forall_mem_cons.mpr ⟨zcd_5, List.forall_mem_cons.mpr ⟨zcd_6, List.forall_mem_cons.mpr ⟨zcd_7, List.forall_mem_cons.mpr ⟨zcd_8, List.forall_mem_cons.mpr ⟨zcd_9, List.forall_mem_cons.mpr ⟨zcd_10, List.forall_mem_cons.mpr ⟨zcd_11, List.forall_mem_cons.mpr ⟨zcd_12, List.forall_mem_cons.mpr ⟨zcd_13, List.forall_mem_cons.mpr ⟨zcd_14, List.forall_mem_cons.mpr ⟨zcd_15, List.forall_mem_cons.mpr ⟨zcd_16, List.forall_mem_cons.mpr ⟨zcd_17, List.forall_mem_cons.mpr ⟨zcd_18, List.forall_mem_cons.mpr ⟨zcd_19, fun _ h => absurd h List.not_mem_nil⟩⟩⟩⟩⟩⟩⟩⟩⟩⟩⟩⟩⟩⟩⟩⟩⟩⟩⟩
theorem zpc_1 : ∀ q ∈ zpr_1, Jvm.Cond.code q.2.1.1 q.2.1.2.1 q.2.1.2.2.1 q.2.1.2.2.2 ∈ zT := List.forall_mem_cons.mpr ⟨zcd_20, List.forall_mem_cons.mpr ⟨zcd_21, List.forall_mem_cons.mpr ⟨zcd_22, List.forall_mem_cons.mpr ⟨zcd_23, List.forall_mem_cons.mpr ⟨zcd_24, List.forall_mem_cons.mpr ⟨zcd_25, List.forall_mem_cons.mpr ⟨zcd_26, List.forall_mem_cons.mpr ⟨zcd_27, List.forall_mem_cons.mpr ⟨zcd_28, List.forall_mem_cons.mpr ⟨zcd_29, List.forall_mem_cons.mpr ⟨zcd_30, List.forall_mem_cons.mpr ⟨zcd_31, List.forall_mem_cons.mpr ⟨zcd_32, List.forall_mem_cons.mpr ⟨zcd_33, List.forall_mem_cons.mpr ⟨zcd_34, List.forall_mem_cons.mpr ⟨zcd_35, List.forall_mem_cons.mpr ⟨zcd_36, List.forall_mem_cons.mpr ⟨zcd_37, List.forall_mem_cons.mpr ⟨zcd_38, List.forall_mem_cons.mpr ⟨zcd_39, fun _ h => absurd h List.not_mem_nil⟩⟩⟩⟩⟩⟩⟩⟩⟩⟩⟩⟩⟩⟩⟩⟩⟩⟩⟩⟩
theorem zpc_2 : ∀ q ∈ zpr_2, Jvm.Cond.code q.2.1.1 q.2.1.2.1 q.2.1.2.2.1 q.2.1.2.2.2 ∈ zT := List.forall_mem_cons.mpr ⟨zcd_40, List.forall_mem_cons.mpr ⟨zcd_41, List.forall_mem_cons.mpr ⟨zcd_42, List.forall_mem_cons.mpr ⟨zcd_43, List.forall_mem_cons.mpr ⟨zcd_44, List.forall_mem_cons.mpr ⟨zcd_45, List.forall_mem_cons.mpr ⟨zcd_46, List.forall_mem_cons.mpr ⟨zcd_47, List.forall_mem_cons.mpr ⟨zcd_48, List.forall_mem_cons.mpr ⟨zcd_49, List.forall_mem_cons.mpr ⟨zcd_50, List.forall_mem_cons.mpr ⟨zcd_51, List.forall_mem_cons.mpr ⟨zcd_52, List.forall_mem_cons.mpr ⟨zcd_53, List.forall_mem_cons.mpr ⟨zcd_54, List.forall_mem_cons.mpr ⟨zcd_55, List.forall_mem_cons.mpr ⟨zcd_56, List.forall_mem_cons.mpr ⟨zcd_57, List.forall_mem_cons.mpr ⟨zcd_58, List.forall_mem_cons.mpr ⟨zcd_59, fun _ h => absurd h List.not_mem_nil⟩⟩⟩⟩⟩⟩⟩⟩⟩⟩⟩⟩⟩⟩⟩⟩⟩⟩⟩⟩
theorem zpc_3 : ∀ q ∈ zpr_3, Jvm.Cond.code q.2.1.1 q.2.1.2.1 q.2.1.2.2.1 q.2.1.2.2.2 ∈ zT := List.forall_mem_cons.mpr ⟨zcd_60, List.forall_mem_cons.mpr ⟨zcd_61, List.forall_mem_cons.mpr ⟨zcd_62, List.forall_mem_cons.mpr ⟨zcd_63, List.forall_mem_cons.mpr ⟨zcd_64, List.forall_mem_cons.mpr ⟨zcd_65, List.forall_mem_cons.mpr ⟨zcd_66, List.forall_mem_cons.mpr ⟨zcd_67, List.forall_mem_cons.mpr ⟨zcd_68, List.forall_mem_cons.mpr ⟨zcd_69, List.forall_mem_cons.mpr ⟨zcd_70, List.forall_mem_cons.mpr ⟨zcd_71, List.forall_mem_cons.mpr ⟨zcd_72, List.forall_mem_cons.mpr ⟨zcd_73, List.forall_mem_cons.mpr ⟨zcd_74, List.forall_mem_cons.mpr ⟨zcd_75, List.forall_mem_cons.mpr ⟨zcd_76, List.forall_mem_cons.mpr ⟨zcd_77, List.forall_mem_cons.mpr ⟨zcd_78, List.forall_mem_cons.mpr ⟨zcd_79, fun _ h => absurd h List.not_mem_nil⟩⟩⟩⟩⟩⟩⟩⟩⟩⟩⟩⟩⟩⟩⟩⟩⟩⟩⟩⟩
theorem zpc_4 : ∀ q ∈ zpr_4, Jvm.Cond.code q.2.1.1 q.2.1.2.1 q.2.1.2.2.1 q.2.1.2.2.2 ∈ zT := List.forall_mem_cons.mpr ⟨zcd_80, List.forall_mem_cons.mpr ⟨zcd_81, List.forall_mem_cons.mpr ⟨zcd_82, List.forall_mem_cons.mpr ⟨zcd_83, List.forall_mem_cons.mpr ⟨zcd_84, List.forall_mem_cons.mpr ⟨zcd_85, List.forall_mem_cons.mpr ⟨zcd_86, List.forall_mem_cons.mpr ⟨zcd_87, List.forall_mem_cons.mpr ⟨zcd_88, List.forall_mem_cons.mpr ⟨zcd_89, List.forall_mem_cons.mpr ⟨zcd_90, List.forall_mem_cons.mpr ⟨zcd_91, List.forall_mem_cons.mpr ⟨zcd_92, List.forall_mem_cons.mpr ⟨zcd_93, List.forall_mem_cons.mpr ⟨zcd_94, List.forall_mem_cons.mpr ⟨zcd_95, List.forall_mem_cons.mpr ⟨zcd_96, List.forall_mem_cons.mpr ⟨zcd_97, List.forall_mem_cons.mpr ⟨zcd_98, List.forall_mem_cons.mpr ⟨zcd_99, fun _ h => absurd h List.not_mem_nil⟩⟩⟩⟩⟩⟩⟩⟩⟩⟩⟩⟩⟩⟩⟩⟩⟩⟩⟩⟩
theorem zpc_5 : ∀ q ∈ zpr_5, Jvm.Cond.code q.2.1.1 q.2.1.2.1 q.2.1.2.2.1 q.2.1.2.2.2 ∈ zT := List.forall_mem_cons.mpr ⟨zcd_100, List.forall_mem_cons.mpr ⟨zcd_101, List.forall_mem_cons.mpr ⟨zcd_102, List.forall_mem_cons.mpr ⟨zcd_103, List.forall_mem_cons.mpr ⟨zcd_104, List.forall_mem_cons.mpr ⟨zcd_105, List.forall_mem_cons.mpr ⟨zcd_106, List.forall_mem_cons.mpr ⟨zcd_107, List.forall_mem_cons.mpr ⟨zcd_108, List.forall_mem_cons.mpr ⟨zcd_109, List.forall_mem_cons.mpr ⟨zcd_110, List.forall_mem_cons.mpr ⟨zcd_111, List.forall_mem_cons.mpr ⟨zcd_112, List.forall_mem_cons.mpr ⟨zcd_113, List.forall_mem_cons.mpr ⟨zcd_114, List.forall_mem_cons.mpr ⟨zcd_115, List.forall_mem_cons.mpr ⟨zcd_116, List.forall_mem_cons.mpr ⟨zcd_117, List.forall_mem_cons.mpr ⟨zcd_118, List.forall_mem_cons.mpr ⟨zcd_119, fun _ h => absurd h List.not_mem_nil⟩⟩⟩⟩⟩⟩⟩⟩⟩⟩⟩⟩⟩⟩⟩⟩⟩⟩⟩⟩
theorem zpc_6 : ∀ q ∈ zpr_6, Jvm.Cond.code q.2.1.1 q.2.1.2.1 q.2.1.2.2.1 q.2.1.2.2.2 ∈ zT := List.forall_mem_cons.mpr ⟨zcd_120, List.forall_mem_cons.mpr ⟨zcd_121, List.forall_mem_cons.mpr ⟨zcd_122, List.forall_mem_cons.mpr ⟨zcd_123, List.forall_mem_cons.mpr ⟨zcd_124, List.forall_mem_cons.mpr ⟨zcd_125, List.forall_mem_cons.mpr ⟨zcd_126, List.forall_mem_cons.mpr ⟨zcd_127, List.forall_mem_cons.mpr ⟨zcd_128, List.forall_mem_cons.mpr ⟨zcd_129, List.forall_mem_cons.mpr ⟨zcd_130, List.forall_mem_cons.mpr ⟨zcd_131, List.forall_mem_cons.mpr ⟨zcd_132, List.forall_mem_cons.mpr ⟨zcd_133, List.forall_mem_cons.mpr ⟨zcd_134, List.forall_mem_cons.mpr ⟨zcd_135, List.forall_mem_cons.mpr ⟨zcd_136, List.forall_mem_cons.mpr ⟨zcd_137, List.forall_mem_cons.mpr ⟨zcd_138, List.forall_mem_cons.mpr ⟨zcd_139, fun _ h => absurd h List.not_mem_nil⟩⟩⟩⟩⟩⟩⟩⟩⟩⟩⟩⟩⟩⟩⟩⟩⟩⟩⟩⟩
theorem zpc_7 : ∀ q ∈ zpr_7, Jvm.Cond.code q.2.1.1 q.2.1.2.1 q.2.1.2.2.1 q.2.1.2.2.2 ∈ zT := List.forall_mem_cons.mpr ⟨zcd_140, List.forall_mem_cons.mpr ⟨zcd_141, List.forall_mem_cons.mpr ⟨zcd_142, List.forall_mem_cons.mpr ⟨zcd_143, List.forall_mem_cons.mpr ⟨zcd_144, List.forall_mem_cons.mpr ⟨zcd_145, List.forall_mem_cons.mpr ⟨zcd_146, List.forall_mem_cons.mpr ⟨zcd_147, List.forall_mem_cons.mpr ⟨zcd_148, List.forall_mem_cons.mpr ⟨zcd_149, List.forall_mem_cons.mpr ⟨zcd_150, List.forall_mem_cons.mpr ⟨zcd_151, List.forall_mem_cons.mpr ⟨zcd_152, List.forall_mem_cons.mpr ⟨zcd_153, List.forall_mem_cons.mpr ⟨zcd_154, List.forall_mem_cons.mpr ⟨zcd_155, List.forall_mem_cons.mpr ⟨zcd_156, List.forall_mem_cons.mpr ⟨zcd_157, List.forall_mem_cons.mpr ⟨zcd_158, List.forall_mem_cons.mpr ⟨zcd_159, fun _ h => absurd h List.not_mem_nil⟩⟩⟩⟩⟩⟩⟩⟩⟩⟩⟩⟩⟩⟩⟩⟩⟩⟩⟩⟩
theorem zpc_8 : ∀ q ∈ zpr_8, Jvm.Cond.code q.2.1.1 q.2.1.2.1 q.2.1.2.2.1 q.2.1.2.2.2 ∈ zT := List.forall_mem_cons.mpr ⟨zcd_160, List.forall_mem_cons.mpr ⟨zcd_161, List.forall_mem_cons.mpr ⟨zcd_162, List.forall_mem_cons.mpr ⟨zcd_163, List.forall_mem_cons.mpr ⟨zcd_164, List.forall_mem_cons.mpr ⟨zcd_165, List.forall_mem_cons.mpr ⟨zcd_166, List.forall_mem_cons.mpr ⟨zcd_167, List.forall_mem_cons.mpr ⟨zcd_168, List.forall_mem_cons.mpr ⟨zcd_169, List.forall_mem_cons.mpr ⟨zcd_170, List.forall_mem_cons.mpr ⟨zcd_171, List.forall_mem_cons.mpr ⟨zcd_172, List.forall_mem_cons.mpr ⟨zcd_173, List.forall_mem_cons.mpr ⟨zcd_174, List.forall_mem_cons.mpr ⟨zcd_175, List.forall_mem_cons.mpr ⟨zcd_176, List.forall_mem_cons.mpr ⟨zcd_177, List.forall_mem_cons.mpr ⟨zcd_178, List.forall_mem_cons.mpr ⟨zcd_179, fun _ h => absurd h List.not_mem_nil⟩⟩⟩⟩⟩⟩⟩⟩⟩⟩⟩⟩⟩⟩⟩⟩⟩⟩⟩⟩
theorem zpc_9 : ∀ q ∈ zpr_9, Jvm.Cond.code q.2.1.1 q.2.1.2.1 q.2.1.2.2.1 q.2.1.2.2.2 ∈ zT := List.forall_mem_cons.mpr ⟨zcd_180, List.forall_mem_cons.mpr ⟨zcd_181, List.forall_mem_cons.mpr ⟨zcd_182, List.forall_mem_cons.mpr ⟨zcd_183, List.forall_mem_cons.mpr ⟨zcd_184, List.forall_mem_cons.mpr ⟨zcd_185, List.forall_mem_cons.mpr ⟨zcd_186, List.forall_mem_cons.mpr ⟨zcd_187, List.forall_mem_cons.mpr ⟨zcd_188, List.forall_mem_cons.mpr ⟨zcd_189, List.forall_mem_cons.mpr ⟨zcd_190, List.forall_mem_cons.mpr ⟨zcd_191, List.forall_mem_cons.mpr ⟨zcd_192, List.forall_mem_cons.mpr ⟨zcd_193, List.forall_mem_cons.mpr ⟨zcd_194, List.forall_mem_cons.mpr ⟨zcd_195, List.forall_mem_cons.mpr ⟨zcd_196, List.forall_mem_cons.mpr ⟨zcd_197, List.forall_mem_cons.mpr ⟨zcd_198, List.forall_mem_cons.mpr ⟨zcd_199, fun _ h => absurd h List.not_mem_nil⟩⟩⟩⟩⟩⟩⟩⟩⟩⟩⟩⟩⟩⟩⟩⟩⟩⟩⟩⟩
theorem zpc_10 : ∀ q ∈ zpr_10, Jvm.Cond.code q.2.1.1 q.2.1.2.1 q.2.1.2.2.1 q.2.1.2.2.2 ∈ zT := List.forall_mem_cons.mpr ⟨zcd_200, List.forall_mem_cons.mpr ⟨zcd_201, List.forall_mem_cons.mpr ⟨zcd_202, List.forall_mem_cons.mpr ⟨zcd_203, List.forall_mem_cons.mpr ⟨zcd_204, List.forall_mem_cons.mpr ⟨zcd_205, List.forall_mem_cons.mpr ⟨zcd_206, List.forall_mem_cons.mpr ⟨zcd_207, List.forall_mem_cons.mpr ⟨zcd_208, List.forall_mem_cons.mpr ⟨zcd_209, List.forall_mem_cons.mpr ⟨zcd_210, List.forall_mem_cons.mpr ⟨zcd_211, List.forall_mem_cons.mpr ⟨zcd_212, List.forall_mem_cons.mpr ⟨zcd_213, List.forall_mem_cons.mpr ⟨zcd_214, List.forall_mem_cons.mpr ⟨zcd_215, List.forall_mem_cons.mpr ⟨zcd_216, List.forall_mem_cons.mpr ⟨zcd_217, List.forall_mem_cons.mpr ⟨zcd_218, List.forall_mem_cons.mpr ⟨zcd_219, fun _ h => absurd h List.not_mem_nil⟩⟩⟩⟩⟩⟩⟩⟩⟩⟩⟩⟩⟩⟩⟩⟩⟩⟩⟩⟩
theorem zpc_11 : ∀ q ∈ zpr_11, Jvm.Cond.code q.2.1.1 q.2.1.2.1 q.2.1.2.2.1 q.2.1.2.2.2 ∈ zT := List.forall_mem_cons.mpr ⟨zcd_220, List.forall_mem_cons.mpr ⟨zcd_221, List.forall_mem_cons.mpr ⟨zcd_222, List.forall_mem_cons.mpr ⟨zcd_223, List.forall_mem_cons.mpr ⟨zcd_224, List.forall_mem_cons.mpr ⟨zcd_225, List.forall_mem_cons.mpr ⟨zcd_226, List.forall_mem_cons.mpr ⟨zcd_227, List.forall_mem_cons.mpr ⟨zcd_228, List.forall_mem_cons.mpr ⟨zcd_229, List.forall_mem_cons.mpr ⟨zcd_230, List.forall_mem_cons.mpr ⟨zcd_231, List.forall_mem_cons.mpr ⟨zcd_232, List.forall_mem_cons.mpr ⟨zcd_233, List.forall_mem_cons.mpr ⟨zcd_234, List.forall_mem_cons.mpr ⟨zcd_235, List.forall_mem_cons.mpr ⟨zcd_236, List.forall_mem_cons.mpr ⟨zcd_237, List.forall_mem_cons.mpr ⟨zcd_238, List.forall_mem_cons.mpr ⟨zcd_239, fun _ h => absurd h List.not_mem_nil⟩⟩⟩⟩⟩⟩⟩⟩⟩⟩⟩⟩⟩⟩⟩⟩⟩⟩⟩⟩
theorem zpc_12 : ∀ q ∈ zpr_12, Jvm.Cond.code q.2.1.1 q.2.1.2.1 q.2.1.2.2.1 q.2.1.2.2.2 ∈ zT := List.forall_mem_cons.mpr ⟨zcd_240, List.forall_mem_cons.mpr ⟨zcd_241, List.forall_mem_cons.mpr ⟨zcd_242, List.forall_mem_cons.mpr ⟨zcd_243, List.forall_mem_cons.mpr ⟨zcd_244, List.forall_mem_cons.mpr ⟨zcd_245, List.forall_mem_cons.mpr ⟨zcd_246, List.forall_mem_cons.mpr ⟨zcd_247, List.forall_mem_cons.mpr ⟨zcd_248, List.forall_mem_cons.mpr ⟨zcd_249, List.forall_mem_cons.mpr ⟨zcd_250, List.forall_mem_cons.mpr ⟨zcd_251, List.forall_mem_cons.mpr ⟨zcd_252, List.forall_mem_cons.mpr ⟨zcd_253, List.forall_mem_cons.mpr ⟨zcd_254, List.forall_mem_cons.mpr ⟨zcd_255, List.forall_mem_cons.mpr ⟨zcd_256, List.forall_mem_cons.mpr ⟨zcd_257, List.forall_mem_cons.mpr ⟨zcd_258, List.forall_mem_cons.mpr ⟨zcd_259, fun _ h => absurd h List.not_mem_nil⟩⟩⟩⟩⟩⟩⟩⟩⟩⟩⟩⟩⟩⟩⟩⟩⟩⟩⟩⟩
theorem zpc_13 : ∀ q ∈ zpr_13, Jvm.Cond.code q.2.1.1 q.2.1.2.1 q.2.1.2.2.1 q.2.1.2.2.2 ∈ zT := List.forall_mem_cons.mpr ⟨zcd_260, List.forall_mem_cons.mpr ⟨zcd_261, List.forall_mem_cons.mpr ⟨zcd_262, List.forall_mem_cons.mpr ⟨zcd_263, List.forall_mem_cons.mpr ⟨zcd_264, List.forall_mem_cons.mpr ⟨zcd_265, List.forall_mem_cons.mpr ⟨zcd_266, List.forall_mem_cons.mpr ⟨zcd_267, List.forall_mem_cons.mpr ⟨zcd_268, List.forall_mem_cons.mpr ⟨zcd_269, List.forall_mem_cons.mpr ⟨zcd_270, List.forall_mem_cons.mpr ⟨zcd_271, List.forall_mem_cons.mpr ⟨zcd_272, List.forall_mem_cons.mpr ⟨zcd_273, List.forall_mem_cons.mpr ⟨zcd_274, List.forall_mem_cons.mpr ⟨zcd_275, List.forall_mem_cons.mpr ⟨zcd_276, List.forall_mem_cons.mpr ⟨zcd_277, List.forall_mem_cons.mpr ⟨zcd_278, List.forall_mem_cons.mpr ⟨zcd_279, fun _ h => absurd h List.not_mem_nil⟩⟩⟩⟩⟩⟩⟩⟩⟩⟩⟩⟩⟩⟩⟩⟩⟩⟩⟩⟩
theorem zpc_14 : ∀ q ∈ zpr_14, Jvm.Cond.code q.2.1.1 q.2.1.2.1 q.2.1.2.2.1 q.2.1.2.2.2 ∈ zT := List.forall_mem_cons.mpr ⟨zcd_280, List.forall_mem_cons.mpr ⟨zcd_281, List.forall_mem_cons.mpr ⟨zcd_282, List.forall_mem_cons.mpr ⟨zcd_283, List.forall_mem_cons.mpr ⟨zcd_284, List.forall_mem_cons.mpr ⟨zcd_285, List.forall_mem_cons.mpr ⟨zcd_286, List.forall_mem_cons.mpr ⟨zcd_287, List.forall_mem_cons.mpr ⟨zcd_288, List.forall_mem_cons.mpr ⟨zcd_289, List.forall_mem_cons.mpr ⟨zcd_290, List.forall_mem_cons.mpr ⟨zcd_291, List.forall_mem_cons.mpr ⟨zcd_292, List.forall_mem_cons.mpr ⟨zcd_293, List.forall_mem_cons.mpr ⟨zcd_294, List.forall_mem_cons.mpr ⟨zcd_295, List.forall_mem_cons.mpr ⟨zcd_296, List.forall_mem_cons.mpr ⟨zcd_297, List.forall_mem_cons.mpr ⟨zcd_298, List.forall_mem_cons.mpr ⟨zcd_299, fun _ h => absurd h List.not_mem_nil⟩⟩⟩⟩⟩⟩⟩⟩⟩⟩⟩⟩⟩⟩⟩⟩⟩⟩⟩⟩
theorem zpc_15 : ∀ q ∈ zpr_15, Jvm.Cond.code q.2.1.1 q.2.1.2.1 q.2.1.2.2.1 q.2.1.2.2.2 ∈ zT := List.forall_mem_cons.mpr ⟨zcd_300, List.forall_mem_cons.mpr ⟨zcd_301, List.forall_mem_cons.mpr ⟨zcd_302, List.forall_mem_cons.mpr ⟨zcd_303, List.forall_mem_cons.mpr ⟨zcd_304, List.forall_mem_cons.mpr ⟨zcd_305, List.forall_mem_cons.mpr ⟨zcd_306, List.forall_mem_cons.mpr ⟨zcd_307, List.forall_mem_cons.mpr ⟨zcd_308, List.forall_mem_cons.mpr ⟨zcd_309, List.forall_mem_cons.mpr ⟨zcd_310, List.forall_mem_cons.mpr ⟨zcd_311, List.forall_mem_cons.mpr ⟨zcd_312, List.forall_mem_cons.mpr ⟨zcd_313, List.forall_mem_cons.mpr ⟨zcd_314, List.forall_mem_cons.mpr ⟨zcd_315, List.forall_mem_cons.mpr ⟨zcd_316, List.forall_mem_cons.mpr ⟨zcd_317, List.forall_mem_cons.mpr ⟨zcd_318, List.forall_mem_cons.mpr ⟨zcd_319, fun _ h => absurd h List.not_mem_nil⟩⟩⟩⟩⟩⟩⟩⟩⟩⟩⟩⟩⟩⟩⟩⟩⟩⟩⟩⟩
theorem zpc_16 : ∀ q ∈ zpr_16, Jvm.Cond.code q.2.1.1 q.2.1.2.1 q.2.1.2.2.1 q.2.1.2.2.2 ∈ zT := List.forall_mem_cons.mpr ⟨zcd_320, List.forall_mem_cons.mpr ⟨zcd_321, List.forall_mem_cons.mpr ⟨zcd_322, List.forall_mem_cons.mpr ⟨zcd_323, List.forall_mem_cons.mpr ⟨zcd_324, List.forall_mem_cons.mpr ⟨zcd_325, List.forall_mem_cons.mpr ⟨zcd_326, List.forall_mem_cons.mpr ⟨zcd_327, List.forall_mem_cons.mpr ⟨zcd_328, List.forall_mem_cons.mpr ⟨zcd_329, List.forall_mem_cons.mpr ⟨zcd_330, List.forall_mem_cons.mpr ⟨zcd_331, List.forall_mem_cons.mpr ⟨zcd_332, List.forall_mem_cons.mpr ⟨zcd_333, fun _ h => absurd h List.not_mem_nil⟩⟩⟩⟩⟩⟩⟩⟩⟩⟩⟩⟩⟩⟩
theorem zprogc_ok : ∀ q ∈ zprog.drop 1, Jvm.Cond.code q.2.1.1 q.2.1.2.1 q.2.1.2.2.1 q.2.1.2.2.2 ∈ zT := fun q h => (List.mem_append.mp h).elim (zpc_0 q) ((fun q h => (List.mem_append.mp h).elim (zpc_1 q) ((fun q h => (List.mem_append.mp h).elim (zpc_2 q) ((fun q h => (List.mem_append.mp h).elim (zpc_3 q) ((fun q h => (List.mem_append.mp h).elim (zpc_4 q) ((fun q h => (List.mem_append.mp h).elim (zpc_5 q) ((fun q h => (List.mem_append.mp h).elim (zpc_6 q) ((fun q h => (List.mem_append.mp h).elim (zpc_7 q) ((fun q h => (List.mem_append.mp h).elim (zpc_8 q) ((fun q h => (List.mem_append.mp h).elim (zpc_9 q) ((fun q h => (List.mem_append.mp h).elim (zpc_10 q) ((fun q h => (List.mem_append.mp h).elim (zpc_11 q) ((fun q h => (List.mem_append.mp h).elim (zpc_12 q) ((fun q h => (List.mem_append.mp h).elim (zpc_13 q) ((fun q h => (List.mem_append.mp h).elim (zpc_14 q) ((fun q h => (List.mem_append.mp h).elim (zpc_15 q) ((zpc_16) q)) q)) q)) q)) q)) q)) q)) q)) q)) q)) q)) q)) q)) q)) q)) q)
theorem zokM_ok : zokM (zMof zprog) zT := zokM_of zprogw_ok zprogc_ok
theorem zokP_ok (xs : List Int32) (v0 : Value) : zokP zcl (zPof zprog zpool) (zMof zprog) (zE0 xs v0) zF zT zN := zokP_of (E := zE0 xs v0) zai_ok zab_ok zprog_ok zpool_ok
