/-! the code of all methods -/
def am_look : List (Nat × (am_S → am_R)) → Nat → am_S → am_R
  | [], _ => fun _ => am_no
  | q :: l, pc => if pc = q.1 then q.2 else am_look l pc
theorem am_look_snd {k : Nat} : ∀ (l : List (Nat × (am_S → am_R))) (pc : Nat), (∀ q ∈ l, am_snd k q.2 q.1) → am_snd k (am_look l pc) pc
  | [], pc, _ => am_s_no
  | q :: l, pc, h => by
    unfold am_look
    by_cases e : pc = q.1
    · rw [if_pos e, e]
      exact h q List.mem_cons_self
    · rw [if_neg e]
      exact am_look_snd l pc (fun x hx => h x (List.mem_cons_of_mem _ hx))
def am_sl (k0 : Nat) (l : List (List (Nat × (am_S → am_R)))) : Prop := ∀ (i : Nat) (t : List (Nat × (am_S → am_R))), l[i]? = some t → ∀ q ∈ t, am_snd (k0 + i) q.2 q.1
theorem am_sl0 {k0 : Nat} : am_sl k0 [] := fun i t h => by simp at h
theorem am_slc {k0 : Nat} {t : List (Nat × (am_S → am_R))} {l : List (List (Nat × (am_S → am_R)))} (h : ∀ q ∈ t, am_snd k0 q.2 q.1) (hl : am_sl (k0 + 1) l) : am_sl k0 (t :: l) := fun i u hu => by
  cases i with
  | zero => cases hu; exact h
  | succ i =>
    have h2 := hl i u (by simpa using hu)
    rw [show k0 + (i + 1) = k0 + 1 + i by omega]
    exact h2
def am_cl_0 : List (List (Nat × (am_S → am_R))) := [at_0, at_1, at_2, at_3, at_4, at_5, at_6, at_7, at_8, at_9, at_10, at_11, at_12, at_13, at_14, at_15, at_16, at_17, at_18, at_19, at_20, at_21, at_22, at_23, at_24, at_25, at_26, at_27, at_28, at_29, at_30, at_31, at_32, at_33, at_34, at_35, at_36, at_37, at_38, at_39]
theorem am_cs_0 : am_sl 0 am_cl_0 := am_slc aq_0 ( am_slc aq_1 ( am_slc aq_2 ( am_slc aq_3 ( am_slc aq_4 ( am_slc aq_5 ( am_slc aq_6 ( am_slc aq_7 ( am_slc aq_8 ( am_slc aq_9 ( am_slc aq_10 ( am_slc aq_11 ( am_slc aq_12 ( am_slc aq_13 ( am_slc aq_14 ( am_slc aq_15 ( am_slc aq_16 ( am_slc aq_17 ( am_slc aq_18 ( am_slc aq_19 ( am_slc aq_20 ( am_slc aq_21 ( am_slc aq_22 ( am_slc aq_23 ( am_slc aq_24 ( am_slc aq_25 ( am_slc aq_26 ( am_slc aq_27 ( am_slc aq_28 ( am_slc aq_29 ( am_slc aq_30 ( am_slc aq_31 ( am_slc aq_32 ( am_slc aq_33 ( am_slc aq_34 ( am_slc aq_35 ( am_slc aq_36 ( am_slc aq_37 ( am_slc aq_38 ( am_slc aq_39 (am_sl0))))))))))))))))))))))))))))))))))))))))
def am_cl_1 : List (List (Nat × (am_S → am_R))) := [at_40, at_41, at_42, at_43, at_44, at_45, at_46, at_47, at_48, at_49, at_50, at_51, at_52, at_53, at_54, at_55, at_56, at_57, at_58, at_59, at_60, at_61, at_62, at_63, at_64, at_65, at_66, at_67, at_68, at_69, at_70, at_71, at_72, at_73, at_74, at_75, at_76, at_77, at_78, at_79]
theorem am_cs_1 : am_sl 40 am_cl_1 := am_slc aq_40 ( am_slc aq_41 ( am_slc aq_42 ( am_slc aq_43 ( am_slc aq_44 ( am_slc aq_45 ( am_slc aq_46 ( am_slc aq_47 ( am_slc aq_48 ( am_slc aq_49 ( am_slc aq_50 ( am_slc aq_51 ( am_slc aq_52 ( am_slc aq_53 ( am_slc aq_54 ( am_slc aq_55 ( am_slc aq_56 ( am_slc aq_57 ( am_slc aq_58 ( am_slc aq_59 ( am_slc aq_60 ( am_slc aq_61 ( am_slc aq_62 ( am_slc aq_63 ( am_slc aq_64 ( am_slc aq_65 ( am_slc aq_66 ( am_slc aq_67 ( am_slc aq_68 ( am_slc aq_69 ( am_slc aq_70 ( am_slc aq_71 ( am_slc aq_72 ( am_slc aq_73 ( am_slc aq_74 ( am_slc aq_75 ( am_slc aq_76 ( am_slc aq_77 ( am_slc aq_78 ( am_slc aq_79 (am_sl0))))))))))))))))))))))))))))))))))))))))
def am_cl_2 : List (List (Nat × (am_S → am_R))) := [at_80, at_81, at_82, at_83, at_84, at_85, at_86, at_87, at_88, at_89, at_90, at_91, at_92, at_93, at_94, at_95, at_96, at_97, at_98, at_99, at_100, at_101, at_102, at_103, at_104, at_105, at_106, at_107, at_108, at_109, at_110, at_111, at_112, at_113, at_114, at_115, at_116, at_117, at_118, at_119]
theorem am_cs_2 : am_sl 80 am_cl_2 := am_slc aq_80 ( am_slc aq_81 ( am_slc aq_82 ( am_slc aq_83 ( am_slc aq_84 ( am_slc aq_85 ( am_slc aq_86 ( am_slc aq_87 ( am_slc aq_88 ( am_slc aq_89 ( am_slc aq_90 ( am_slc aq_91 ( am_slc aq_92 ( am_slc aq_93 ( am_slc aq_94 ( am_slc aq_95 ( am_slc aq_96 ( am_slc aq_97 ( am_slc aq_98 ( am_slc aq_99 ( am_slc aq_100 ( am_slc aq_101 ( am_slc aq_102 ( am_slc aq_103 ( am_slc aq_104 ( am_slc aq_105 ( am_slc aq_106 ( am_slc aq_107 ( am_slc aq_108 ( am_slc aq_109 ( am_slc aq_110 ( am_slc aq_111 ( am_slc aq_112 ( am_slc aq_113 ( am_slc aq_114 ( am_slc aq_115 ( am_slc aq_116 ( am_slc aq_117 ( am_slc aq_118 ( am_slc aq_119 (am_sl0))))))))))))))))))))))))))))))))))))))))
def am_cl_3 : List (List (Nat × (am_S → am_R))) := [at_120, at_121, at_122, at_123, at_124, at_125, at_126, at_127, at_128, at_129, at_130, at_131, at_132, at_133, at_134, at_135, at_136, at_137, at_138, at_139, at_140, at_141, at_142, at_143, at_144, at_145, at_146, at_147, at_148, at_149, at_150, at_151, at_152, at_153, at_154, at_155, at_156, at_157, at_158, at_159]
theorem am_cs_3 : am_sl 120 am_cl_3 := am_slc aq_120 ( am_slc aq_121 ( am_slc aq_122 ( am_slc aq_123 ( am_slc aq_124 ( am_slc aq_125 ( am_slc aq_126 ( am_slc aq_127 ( am_slc aq_128 ( am_slc aq_129 ( am_slc aq_130 ( am_slc aq_131 ( am_slc aq_132 ( am_slc aq_133 ( am_slc aq_134 ( am_slc aq_135 ( am_slc aq_136 ( am_slc aq_137 ( am_slc aq_138 ( am_slc aq_139 ( am_slc aq_140 ( am_slc aq_141 ( am_slc aq_142 ( am_slc aq_143 ( am_slc aq_144 ( am_slc aq_145 ( am_slc aq_146 ( am_slc aq_147 ( am_slc aq_148 ( am_slc aq_149 ( am_slc aq_150 ( am_slc aq_151 ( am_slc aq_152 ( am_slc aq_153 ( am_slc aq_154 ( am_slc aq_155 ( am_slc aq_156 ( am_slc aq_157 ( am_slc aq_158 ( am_slc aq_159 (am_sl0))))))))))))))))))))))))))))))))))))))))
def am_cl_4 : List (List (Nat × (am_S → am_R))) := [at_160, at_161, at_162, at_163, at_164, at_165, at_166, at_167, at_168, at_169, at_170, at_171, at_172, at_173, at_174, at_175, at_176, at_177, at_178, at_179, at_180, at_181, at_182, at_183, at_184, at_185, at_186, at_187, at_188, at_189, at_190, at_191, at_192, at_193, at_194, at_195, at_196, at_197, at_198, at_199]
theorem am_cs_4 : am_sl 160 am_cl_4 := am_slc aq_160 ( am_slc aq_161 ( am_slc aq_162 ( am_slc aq_163 ( am_slc aq_164 ( am_slc aq_165 ( am_slc aq_166 ( am_slc aq_167 ( am_slc aq_168 ( am_slc aq_169 ( am_slc aq_170 ( am_slc aq_171 ( am_slc aq_172 ( am_slc aq_173 ( am_slc aq_174 ( am_slc aq_175 ( am_slc aq_176 ( am_slc aq_177 ( am_slc aq_178 ( am_slc aq_179 ( am_slc aq_180 ( am_slc aq_181 ( am_slc aq_182 ( am_slc aq_183 ( am_slc aq_184 ( am_slc aq_185 ( am_slc aq_186 ( am_slc aq_187 ( am_slc aq_188 ( am_slc aq_189 ( am_slc aq_190 ( am_slc aq_191 ( am_slc aq_192 ( am_slc aq_193 ( am_slc aq_194 ( am_slc aq_195 ( am_slc aq_196 ( am_slc aq_197 ( am_slc aq_198 ( am_slc aq_199 (am_sl0))))))))))))))))))))))))))))))))))))))))
def am_cl_5 : List (List (Nat × (am_S → am_R))) := [at_200, at_201, at_202, at_203, at_204, at_205, at_206, at_207, at_208, at_209, at_210, at_211, at_212, at_213, at_214, at_215, at_216, at_217, at_218, at_219, at_220, at_221, at_222, at_223, at_224, at_225, at_226, at_227, at_228, at_229, at_230, at_231, at_232, at_233, at_234, at_235, at_236, at_237, at_238, at_239]
theorem am_cs_5 : am_sl 200 am_cl_5 := am_slc aq_200 ( am_slc aq_201 ( am_slc aq_202 ( am_slc aq_203 ( am_slc aq_204 ( am_slc aq_205 ( am_slc aq_206 ( am_slc aq_207 ( am_slc aq_208 ( am_slc aq_209 ( am_slc aq_210 ( am_slc aq_211 ( am_slc aq_212 ( am_slc aq_213 ( am_slc aq_214 ( am_slc aq_215 ( am_slc aq_216 ( am_slc aq_217 ( am_slc aq_218 ( am_slc aq_219 ( am_slc aq_220 ( am_slc aq_221 ( am_slc aq_222 ( am_slc aq_223 ( am_slc aq_224 ( am_slc aq_225 ( am_slc aq_226 ( am_slc aq_227 ( am_slc aq_228 ( am_slc aq_229 ( am_slc aq_230 ( am_slc aq_231 ( am_slc aq_232 ( am_slc aq_233 ( am_slc aq_234 ( am_slc aq_235 ( am_slc aq_236 ( am_slc aq_237 ( am_slc aq_238 ( am_slc aq_239 (am_sl0))))))))))))))))))))))))))))))))))))))))
def am_cl_6 : List (List (Nat × (am_S → am_R))) := [at_240, at_241, at_242, at_243, at_244, at_245, at_246, at_247, at_248, at_249, at_250, at_251, at_252, at_253, at_254, at_255, at_256, at_257, at_258, at_259, at_260, at_261, at_262, at_263, at_264, at_265, at_266, at_267, at_268, at_269, at_270, at_271, at_272, at_273, at_274, at_275, at_276, at_277, at_278, at_279]
theorem am_cs_6 : am_sl 240 am_cl_6 := am_slc aq_240 ( am_slc aq_241 ( am_slc aq_242 ( am_slc aq_243 ( am_slc aq_244 ( am_slc aq_245 ( am_slc aq_246 ( am_slc aq_247 ( am_slc aq_248 ( am_slc aq_249 ( am_slc aq_250 ( am_slc aq_251 ( am_slc aq_252 ( am_slc aq_253 ( am_slc aq_254 ( am_slc aq_255 ( am_slc aq_256 ( am_slc aq_257 ( am_slc aq_258 ( am_slc aq_259 ( am_slc aq_260 ( am_slc aq_261 ( am_slc aq_262 ( am_slc aq_263 ( am_slc aq_264 ( am_slc aq_265 ( am_slc aq_266 ( am_slc aq_267 ( am_slc aq_268 ( am_slc aq_269 ( am_slc aq_270 ( am_slc aq_271 ( am_slc aq_272 ( am_slc aq_273 ( am_slc aq_274 ( am_slc aq_275 ( am_slc aq_276 ( am_slc aq_277 ( am_slc aq_278 ( am_slc aq_279 (am_sl0))))))))))))))))))))))))))))))))))))))))
def am_cl_7 : List (List (Nat × (am_S → am_R))) := [at_280, at_281, at_282, at_283, at_284, at_285, at_286, at_287, at_288, at_289, at_290, at_291, at_292, at_293, at_294, at_295, at_296, at_297, at_298, at_299, at_300, at_301, at_302, at_303, at_304, at_305, at_306, at_307, at_308, at_309, at_310, at_311, at_312]
theorem am_cs_7 : am_sl 280 am_cl_7 := am_slc aq_280 ( am_slc aq_281 ( am_slc aq_282 ( am_slc aq_283 ( am_slc aq_284 ( am_slc aq_285 ( am_slc aq_286 ( am_slc aq_287 ( am_slc aq_288 ( am_slc aq_289 ( am_slc aq_290 ( am_slc aq_291 ( am_slc aq_292 ( am_slc aq_293 ( am_slc aq_294 ( am_slc aq_295 ( am_slc aq_296 ( am_slc aq_297 ( am_slc aq_298 ( am_slc aq_299 ( am_slc aq_300 ( am_slc aq_301 ( am_slc aq_302 ( am_slc aq_303 ( am_slc aq_304 ( am_slc aq_305 ( am_slc aq_306 ( am_slc aq_307 ( am_slc aq_308 ( am_slc aq_309 ( am_slc aq_310 ( am_slc aq_311 ( am_slc aq_312 (am_sl0)))))))))))))))))))))))))))))))))
def am_cll : List (List (List (Nat × (am_S → am_R)))) := [am_cl_0, am_cl_1, am_cl_2, am_cl_3, am_cl_4, am_cl_5, am_cl_6, am_cl_7]
def am_tab (k : Nat) : List (Nat × (am_S → am_R)) := (am_cll.getD (k / 40) []).getD (k % 40) []
def am_cod (k pc : Nat) : am_S → am_R := am_look (am_tab k) pc
theorem am_cll_ok : ∀ (c : Nat) (l : List (List (Nat × (am_S → am_R)))), am_cll[c]? = some l → am_sl (40 * c) l := by
  intro c l h
  match c, h with
  | 0, h => cases h; exact am_cs_0
  | 1, h => cases h; exact am_cs_1
  | 2, h => cases h; exact am_cs_2
  | 3, h => cases h; exact am_cs_3
  | 4, h => cases h; exact am_cs_4
  | 5, h => cases h; exact am_cs_5
  | 6, h => cases h; exact am_cs_6
  | 7, h => cases h; exact am_cs_7
  | c + 8, h => simp [am_cll] at h
theorem am_hcod : ∀ k pc, am_snd k (am_cod k pc) pc := by
  intro k pc
  refine am_look_snd _ _ ?_
  unfold am_tab
  cases hl : am_cll[k / 40]? with
  | none =>
    rw [List.getD_eq_getElem?_getD, List.getD_eq_getElem?_getD, hl]
    exact am_nil
  | some l =>
    have h := am_cll_ok _ _ hl
    rw [List.getD_eq_getElem?_getD, List.getD_eq_getElem?_getD, hl]
    show ∀ q ∈ (l[k % 40]?).getD [], _
    cases ht : l[k % 40]? with
    | none => exact am_nil
    | some t =>
      have h2 := h _ _ ht
      rw [show 40 * (k / 40) + k % 40 = k by omega] at h2
      exact h2
