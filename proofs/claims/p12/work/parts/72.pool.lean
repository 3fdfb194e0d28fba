noncomputable section
def lw_lm : List (Nat × (Nat ⊕ Nat)) := [(19, .inr 128), (23, .inr 186), (24, .inr 129), (28, .inr 187), (29, .inr 130), (32, .inr 188), (33, .inr 131), (36, .inr 191), (37, .inr 132), (40, .inr 195), (41, .inr 133), (44, .inr 197), (45, .inr 134), (49, .inr 202), (50, .inr 135), (54, .inr 203), (55, .inr 136), (58, .inr 204), (59, .inr 137), (63, .inr 205), (64, .inr 138), (67, .inr 213), (68, .inr 139), (71, .inr 214), (72, .inr 140), (75, .inr 215), (76, .inr 141), (79, .inr 216), (80, .inr 142), (83, .inr 217), (84, .inr 143), (87, .inr 222), (88, .inr 144), (91, .inr 223), (92, .inr 145), (95, .inr 225), (96, .inr 146), (99, .inr 226), (100, .inr 147), (104, .inr 230), (105, .inr 148), (108, .inr 231), (114, .inr 232), (115, .inr 150), (118, .inr 233), (119, .inr 151), (122, .inr 237), (123, .inr 152), (126, .inr 238), (127, .inr 153), (131, .inr 239), (132, .inr 154), (135, .inr 243), (136, .inr 155), (139, .inr 244), (140, .inr 156), (143, .inr 245), (144, .inr 157), (147, .inr 246), (148, .inr 158), (151, .inr 250), (152, .inr 159), (155, .inr 251), (156, .inr 160), (159, .inr 252), (160, .inr 161), (163, .inr 253), (164, .inr 162), (167, .inr 254), (168, .inr 163), (171, .inr 255), (172, .inr 164), (175, .inr 256), (176, .inr 165), (179, .inr 258), (180, .inr 166), (183, .inr 259)]
def TbL : ab_Tb := (fun _ => none, fun _ => none, fun _ => none, fun _ => false, ab_al lw_lm)
theorem ls_19 : ∃ k, (Sum.inr 128 : Nat ⊕ Nat) = .inr k ∧ ab_Site ZZ MtF vwCl R_law 19 k := ⟨128, rfl, ab_st (iw_2 (j := 153) rfl rfl) sr_128⟩
theorem ls_23 : ∃ k, (Sum.inr 186 : Nat ⊕ Nat) = .inr k ∧ ab_Site ZZ MtF vwCl R_law 23 k := ⟨186, rfl, ab_st (iw_6 (j := 179) rfl rfl) sr_186⟩
theorem ls_24 : ∃ k, (Sum.inr 129 : Nat ⊕ Nat) = .inr k ∧ ab_Site ZZ MtF vwCl R_law 24 k := ⟨129, rfl, ab_st (iw_2 (j := 175) rfl rfl) sr_129⟩
theorem ls_28 : ∃ k, (Sum.inr 187 : Nat ⊕ Nat) = .inr k ∧ ab_Site ZZ MtF vwCl R_law 28 k := ⟨187, rfl, ab_st (iw_6 (j := 193) rfl rfl) sr_187⟩
theorem ls_29 : ∃ k, (Sum.inr 130 : Nat ⊕ Nat) = .inr k ∧ ab_Site ZZ MtF vwCl R_law 29 k := ⟨130, rfl, ab_st (iw_2 (j := 191) rfl rfl) sr_130⟩
theorem ls_32 : ∃ k, (Sum.inr 188 : Nat ⊕ Nat) = .inr k ∧ ab_Site ZZ MtF vwCl R_law 32 k := ⟨188, rfl, ab_st (iw_6 (j := 205) rfl rfl) sr_188⟩
theorem ls_33 : ∃ k, (Sum.inr 131 : Nat ⊕ Nat) = .inr k ∧ ab_Site ZZ MtF vwCl R_law 33 k := ⟨131, rfl, ab_st (iw_2 (j := 206) rfl rfl) sr_131⟩
theorem ls_36 : ∃ k, (Sum.inr 191 : Nat ⊕ Nat) = .inr k ∧ ab_Site ZZ MtF vwCl R_law 36 k := ⟨191, rfl, ab_st (iw_6 (j := 212) rfl rfl) sr_191⟩
theorem ls_37 : ∃ k, (Sum.inr 132 : Nat ⊕ Nat) = .inr k ∧ ab_Site ZZ MtF vwCl R_law 37 k := ⟨132, rfl, ab_st (iw_2 (j := 236) rfl rfl) sr_132⟩
theorem ls_40 : ∃ k, (Sum.inr 195 : Nat ⊕ Nat) = .inr k ∧ ab_Site ZZ MtF vwCl R_law 40 k := ⟨195, rfl, ab_st (iw_6 (j := 220) rfl rfl) sr_195⟩
theorem ls_41 : ∃ k, (Sum.inr 133 : Nat ⊕ Nat) = .inr k ∧ ab_Site ZZ MtF vwCl R_law 41 k := ⟨133, rfl, ab_st (iw_3 (j := 21) rfl rfl) sr_133⟩
theorem ls_44 : ∃ k, (Sum.inr 197 : Nat ⊕ Nat) = .inr k ∧ ab_Site ZZ MtF vwCl R_law 44 k := ⟨197, rfl, ab_st (iw_7 (j := 0) rfl rfl) sr_197⟩
theorem ls_45 : ∃ k, (Sum.inr 134 : Nat ⊕ Nat) = .inr k ∧ ab_Site ZZ MtF vwCl R_law 45 k := ⟨134, rfl, ab_st (iw_3 (j := 35) rfl rfl) sr_134⟩
theorem ls_49 : ∃ k, (Sum.inr 202 : Nat ⊕ Nat) = .inr k ∧ ab_Site ZZ MtF vwCl R_law 49 k := ⟨202, rfl, ab_st (iw_7 (j := 8) rfl rfl) sr_202⟩
theorem ls_50 : ∃ k, (Sum.inr 135 : Nat ⊕ Nat) = .inr k ∧ ab_Site ZZ MtF vwCl R_law 50 k := ⟨135, rfl, ab_st (iw_3 (j := 69) rfl rfl) sr_135⟩
theorem ls_54 : ∃ k, (Sum.inr 203 : Nat ⊕ Nat) = .inr k ∧ ab_Site ZZ MtF vwCl R_law 54 k := ⟨203, rfl, ab_st (iw_7 (j := 28) rfl rfl) sr_203⟩
theorem ls_55 : ∃ k, (Sum.inr 136 : Nat ⊕ Nat) = .inr k ∧ ab_Site ZZ MtF vwCl R_law 55 k := ⟨136, rfl, ab_st (iw_3 (j := 77) rfl rfl) sr_136⟩
theorem ls_58 : ∃ k, (Sum.inr 204 : Nat ⊕ Nat) = .inr k ∧ ab_Site ZZ MtF vwCl R_law 58 k := ⟨204, rfl, ab_st (iw_7 (j := 32) rfl rfl) sr_204⟩
theorem ls_59 : ∃ k, (Sum.inr 137 : Nat ⊕ Nat) = .inr k ∧ ab_Site ZZ MtF vwCl R_law 59 k := ⟨137, rfl, ab_st (iw_3 (j := 86) rfl rfl) sr_137⟩
theorem ls_63 : ∃ k, (Sum.inr 205 : Nat ⊕ Nat) = .inr k ∧ ab_Site ZZ MtF vwCl R_law 63 k := ⟨205, rfl, ab_st (iw_7 (j := 36) rfl rfl) sr_205⟩
theorem ls_64 : ∃ k, (Sum.inr 138 : Nat ⊕ Nat) = .inr k ∧ ab_Site ZZ MtF vwCl R_law 64 k := ⟨138, rfl, ab_st (iw_3 (j := 94) rfl rfl) sr_138⟩
theorem ls_67 : ∃ k, (Sum.inr 213 : Nat ⊕ Nat) = .inr k ∧ ab_Site ZZ MtF vwCl R_law 67 k := ⟨213, rfl, ab_st (iw_7 (j := 40) rfl rfl) sr_213⟩
theorem ls_68 : ∃ k, (Sum.inr 139 : Nat ⊕ Nat) = .inr k ∧ ab_Site ZZ MtF vwCl R_law 68 k := ⟨139, rfl, ab_st (iw_3 (j := 165) rfl rfl) sr_139⟩
theorem ls_71 : ∃ k, (Sum.inr 214 : Nat ⊕ Nat) = .inr k ∧ ab_Site ZZ MtF vwCl R_law 71 k := ⟨214, rfl, ab_st (iw_7 (j := 71) rfl rfl) sr_214⟩
theorem ls_72 : ∃ k, (Sum.inr 140 : Nat ⊕ Nat) = .inr k ∧ ab_Site ZZ MtF vwCl R_law 72 k := ⟨140, rfl, ab_st (iw_3 (j := 177) rfl rfl) sr_140⟩
theorem ls_75 : ∃ k, (Sum.inr 215 : Nat ⊕ Nat) = .inr k ∧ ab_Site ZZ MtF vwCl R_law 75 k := ⟨215, rfl, ab_st (iw_7 (j := 75) rfl rfl) sr_215⟩
theorem ls_76 : ∃ k, (Sum.inr 141 : Nat ⊕ Nat) = .inr k ∧ ab_Site ZZ MtF vwCl R_law 76 k := ⟨141, rfl, ab_st (iw_3 (j := 194) rfl rfl) sr_141⟩
theorem ls_79 : ∃ k, (Sum.inr 216 : Nat ⊕ Nat) = .inr k ∧ ab_Site ZZ MtF vwCl R_law 79 k := ⟨216, rfl, ab_st (iw_7 (j := 79) rfl rfl) sr_216⟩
theorem ls_80 : ∃ k, (Sum.inr 142 : Nat ⊕ Nat) = .inr k ∧ ab_Site ZZ MtF vwCl R_law 80 k := ⟨142, rfl, ab_st (iw_3 (j := 206) rfl rfl) sr_142⟩
theorem ls_83 : ∃ k, (Sum.inr 217 : Nat ⊕ Nat) = .inr k ∧ ab_Site ZZ MtF vwCl R_law 83 k := ⟨217, rfl, ab_st (iw_7 (j := 83) rfl rfl) sr_217⟩
theorem ls_84 : ∃ k, (Sum.inr 143 : Nat ⊕ Nat) = .inr k ∧ ab_Site ZZ MtF vwCl R_law 84 k := ⟨143, rfl, ab_st (iw_3 (j := 222) rfl rfl) sr_143⟩
theorem ls_87 : ∃ k, (Sum.inr 222 : Nat ⊕ Nat) = .inr k ∧ ab_Site ZZ MtF vwCl R_law 87 k := ⟨222, rfl, ab_st (iw_7 (j := 87) rfl rfl) sr_222⟩
theorem ls_88 : ∃ k, (Sum.inr 144 : Nat ⊕ Nat) = .inr k ∧ ab_Site ZZ MtF vwCl R_law 88 k := ⟨144, rfl, ab_st (iw_4 (j := 33) rfl rfl) sr_144⟩
theorem ls_91 : ∃ k, (Sum.inr 223 : Nat ⊕ Nat) = .inr k ∧ ab_Site ZZ MtF vwCl R_law 91 k := ⟨223, rfl, ab_st (iw_7 (j := 107) rfl rfl) sr_223⟩
theorem ls_92 : ∃ k, (Sum.inr 145 : Nat ⊕ Nat) = .inr k ∧ ab_Site ZZ MtF vwCl R_law 92 k := ⟨145, rfl, ab_st (iw_4 (j := 53) rfl rfl) sr_145⟩
theorem ls_95 : ∃ k, (Sum.inr 225 : Nat ⊕ Nat) = .inr k ∧ ab_Site ZZ MtF vwCl R_law 95 k := ⟨225, rfl, ab_st (iw_7 (j := 111) rfl rfl) sr_225⟩
theorem ls_96 : ∃ k, (Sum.inr 146 : Nat ⊕ Nat) = .inr k ∧ ab_Site ZZ MtF vwCl R_law 96 k := ⟨146, rfl, ab_st (iw_4 (j := 69) rfl rfl) sr_146⟩
theorem ls_99 : ∃ k, (Sum.inr 226 : Nat ⊕ Nat) = .inr k ∧ ab_Site ZZ MtF vwCl R_law 99 k := ⟨226, rfl, ab_st (iw_7 (j := 119) rfl rfl) sr_226⟩
theorem ls_100 : ∃ k, (Sum.inr 147 : Nat ⊕ Nat) = .inr k ∧ ab_Site ZZ MtF vwCl R_law 100 k := ⟨147, rfl, ab_st (iw_4 (j := 80) rfl rfl) sr_147⟩
theorem ls_104 : ∃ k, (Sum.inr 230 : Nat ⊕ Nat) = .inr k ∧ ab_Site ZZ MtF vwCl R_law 104 k := ⟨230, rfl, ab_st (iw_7 (j := 123) rfl rfl) sr_230⟩
theorem ls_105 : ∃ k, (Sum.inr 148 : Nat ⊕ Nat) = .inr k ∧ ab_Site ZZ MtF vwCl R_law 105 k := ⟨148, rfl, ab_st (iw_4 (j := 103) rfl rfl) sr_148⟩
theorem ls_108 : ∃ k, (Sum.inr 231 : Nat ⊕ Nat) = .inr k ∧ ab_Site ZZ MtF vwCl R_law 108 k := ⟨231, rfl, ab_st (iw_7 (j := 135) rfl rfl) sr_231⟩
theorem ls_114 : ∃ k, (Sum.inr 232 : Nat ⊕ Nat) = .inr k ∧ ab_Site ZZ MtF vwCl R_law 114 k := ⟨232, rfl, ab_st (iw_7 (j := 144) rfl rfl) sr_232⟩
theorem ls_115 : ∃ k, (Sum.inr 150 : Nat ⊕ Nat) = .inr k ∧ ab_Site ZZ MtF vwCl R_law 115 k := ⟨150, rfl, ab_st (iw_4 (j := 116) rfl rfl) sr_150⟩
theorem ls_118 : ∃ k, (Sum.inr 233 : Nat ⊕ Nat) = .inr k ∧ ab_Site ZZ MtF vwCl R_law 118 k := ⟨233, rfl, ab_st (iw_7 (j := 148) rfl rfl) sr_233⟩
theorem ls_119 : ∃ k, (Sum.inr 151 : Nat ⊕ Nat) = .inr k ∧ ab_Site ZZ MtF vwCl R_law 119 k := ⟨151, rfl, ab_st (iw_4 (j := 124) rfl rfl) sr_151⟩
theorem ls_122 : ∃ k, (Sum.inr 237 : Nat ⊕ Nat) = .inr k ∧ ab_Site ZZ MtF vwCl R_law 122 k := ⟨237, rfl, ab_st (iw_7 (j := 152) rfl rfl) sr_237⟩
theorem ls_123 : ∃ k, (Sum.inr 152 : Nat ⊕ Nat) = .inr k ∧ ab_Site ZZ MtF vwCl R_law 123 k := ⟨152, rfl, ab_st (iw_4 (j := 148) rfl rfl) sr_152⟩
theorem ls_126 : ∃ k, (Sum.inr 238 : Nat ⊕ Nat) = .inr k ∧ ab_Site ZZ MtF vwCl R_law 126 k := ⟨238, rfl, ab_st (iw_7 (j := 170) rfl rfl) sr_238⟩
theorem ls_127 : ∃ k, (Sum.inr 153 : Nat ⊕ Nat) = .inr k ∧ ab_Site ZZ MtF vwCl R_law 127 k := ⟨153, rfl, ab_st (iw_4 (j := 158) rfl rfl) sr_153⟩
theorem ls_131 : ∃ k, (Sum.inr 239 : Nat ⊕ Nat) = .inr k ∧ ab_Site ZZ MtF vwCl R_law 131 k := ⟨239, rfl, ab_st (iw_7 (j := 175) rfl rfl) sr_239⟩
theorem ls_132 : ∃ k, (Sum.inr 154 : Nat ⊕ Nat) = .inr k ∧ ab_Site ZZ MtF vwCl R_law 132 k := ⟨154, rfl, ab_st (iw_4 (j := 175) rfl rfl) sr_154⟩
theorem ls_135 : ∃ k, (Sum.inr 243 : Nat ⊕ Nat) = .inr k ∧ ab_Site ZZ MtF vwCl R_law 135 k := ⟨243, rfl, ab_st (iw_7 (j := 180) rfl rfl) sr_243⟩
theorem ls_136 : ∃ k, (Sum.inr 155 : Nat ⊕ Nat) = .inr k ∧ ab_Site ZZ MtF vwCl R_law 136 k := ⟨155, rfl, ab_st (iw_4 (j := 210) rfl rfl) sr_155⟩
theorem ls_139 : ∃ k, (Sum.inr 244 : Nat ⊕ Nat) = .inr k ∧ ab_Site ZZ MtF vwCl R_law 139 k := ⟨244, rfl, ab_st (iw_7 (j := 196) rfl rfl) sr_244⟩
theorem ls_140 : ∃ k, (Sum.inr 156 : Nat ⊕ Nat) = .inr k ∧ ab_Site ZZ MtF vwCl R_law 140 k := ⟨156, rfl, ab_st (iw_4 (j := 222) rfl rfl) sr_156⟩
theorem ls_143 : ∃ k, (Sum.inr 245 : Nat ⊕ Nat) = .inr k ∧ ab_Site ZZ MtF vwCl R_law 143 k := ⟨245, rfl, ab_st (iw_7 (j := 200) rfl rfl) sr_245⟩
theorem ls_144 : ∃ k, (Sum.inr 157 : Nat ⊕ Nat) = .inr k ∧ ab_Site ZZ MtF vwCl R_law 144 k := ⟨157, rfl, ab_st (iw_4 (j := 230) rfl rfl) sr_157⟩
theorem ls_147 : ∃ k, (Sum.inr 246 : Nat ⊕ Nat) = .inr k ∧ ab_Site ZZ MtF vwCl R_law 147 k := ⟨246, rfl, ab_st (iw_7 (j := 204) rfl rfl) sr_246⟩
theorem ls_148 : ∃ k, (Sum.inr 158 : Nat ⊕ Nat) = .inr k ∧ ab_Site ZZ MtF vwCl R_law 148 k := ⟨158, rfl, ab_st (iw_5 (j := 13) rfl rfl) sr_158⟩
theorem ls_151 : ∃ k, (Sum.inr 250 : Nat ⊕ Nat) = .inr k ∧ ab_Site ZZ MtF vwCl R_law 151 k := ⟨250, rfl, ab_st (iw_7 (j := 208) rfl rfl) sr_250⟩
theorem ls_152 : ∃ k, (Sum.inr 159 : Nat ⊕ Nat) = .inr k ∧ ab_Site ZZ MtF vwCl R_law 152 k := ⟨159, rfl, ab_st (iw_5 (j := 25) rfl rfl) sr_159⟩
theorem ls_155 : ∃ k, (Sum.inr 251 : Nat ⊕ Nat) = .inr k ∧ ab_Site ZZ MtF vwCl R_law 155 k := ⟨251, rfl, ab_st (iw_7 (j := 223) rfl rfl) sr_251⟩
theorem ls_156 : ∃ k, (Sum.inr 160 : Nat ⊕ Nat) = .inr k ∧ ab_Site ZZ MtF vwCl R_law 156 k := ⟨160, rfl, ab_st (iw_5 (j := 37) rfl rfl) sr_160⟩
theorem ls_159 : ∃ k, (Sum.inr 252 : Nat ⊕ Nat) = .inr k ∧ ab_Site ZZ MtF vwCl R_law 159 k := ⟨252, rfl, ab_st (iw_7 (j := 227) rfl rfl) sr_252⟩
theorem ls_160 : ∃ k, (Sum.inr 161 : Nat ⊕ Nat) = .inr k ∧ ab_Site ZZ MtF vwCl R_law 160 k := ⟨161, rfl, ab_st (iw_5 (j := 49) rfl rfl) sr_161⟩
theorem ls_163 : ∃ k, (Sum.inr 253 : Nat ⊕ Nat) = .inr k ∧ ab_Site ZZ MtF vwCl R_law 163 k := ⟨253, rfl, ab_st (iw_7 (j := 231) rfl rfl) sr_253⟩
theorem ls_164 : ∃ k, (Sum.inr 162 : Nat ⊕ Nat) = .inr k ∧ ab_Site ZZ MtF vwCl R_law 164 k := ⟨162, rfl, ab_st (iw_5 (j := 57) rfl rfl) sr_162⟩
theorem ls_167 : ∃ k, (Sum.inr 254 : Nat ⊕ Nat) = .inr k ∧ ab_Site ZZ MtF vwCl R_law 167 k := ⟨254, rfl, ab_st (iw_7 (j := 235) rfl rfl) sr_254⟩
theorem ls_168 : ∃ k, (Sum.inr 163 : Nat ⊕ Nat) = .inr k ∧ ab_Site ZZ MtF vwCl R_law 168 k := ⟨163, rfl, ab_st (iw_5 (j := 70) rfl rfl) sr_163⟩
theorem ls_171 : ∃ k, (Sum.inr 255 : Nat ⊕ Nat) = .inr k ∧ ab_Site ZZ MtF vwCl R_law 171 k := ⟨255, rfl, ab_st (iw_7 (j := 239) rfl rfl) sr_255⟩
theorem ls_172 : ∃ k, (Sum.inr 164 : Nat ⊕ Nat) = .inr k ∧ ab_Site ZZ MtF vwCl R_law 172 k := ⟨164, rfl, ab_st (iw_5 (j := 78) rfl rfl) sr_164⟩
theorem ls_175 : ∃ k, (Sum.inr 256 : Nat ⊕ Nat) = .inr k ∧ ab_Site ZZ MtF vwCl R_law 175 k := ⟨256, rfl, ab_st (iw_8 (j := 3) rfl rfl) sr_256⟩
theorem ls_176 : ∃ k, (Sum.inr 165 : Nat ⊕ Nat) = .inr k ∧ ab_Site ZZ MtF vwCl R_law 176 k := ⟨165, rfl, ab_st (iw_5 (j := 90) rfl rfl) sr_165⟩
theorem ls_179 : ∃ k, (Sum.inr 258 : Nat ⊕ Nat) = .inr k ∧ ab_Site ZZ MtF vwCl R_law 179 k := ⟨258, rfl, ab_st (iw_8 (j := 11) rfl rfl) sr_258⟩
theorem ls_180 : ∃ k, (Sum.inr 166 : Nat ⊕ Nat) = .inr k ∧ ab_Site ZZ MtF vwCl R_law 180 k := ⟨166, rfl, ab_st (iw_5 (j := 100) rfl rfl) sr_166⟩
theorem ls_183 : ∃ k, (Sum.inr 259 : Nat ⊕ Nat) = .inr k ∧ ab_Site ZZ MtF vwCl R_law 183 k := ⟨259, rfl, ab_st (iw_8 (j := 15) rfl rfl) sr_259⟩
theorem lw_lmo : ∀ q ∈ lw_lm, ∃ k, q.2 = .inr k ∧ ab_Site ZZ MtF vwCl R_law q.1 k := (List.forall_mem_cons.mpr ⟨ls_19, (List.forall_mem_cons.mpr ⟨ls_23, (List.forall_mem_cons.mpr ⟨ls_24, (List.forall_mem_cons.mpr ⟨ls_28, (List.forall_mem_cons.mpr ⟨ls_29, (List.forall_mem_cons.mpr ⟨ls_32, (List.forall_mem_cons.mpr ⟨ls_33, (List.forall_mem_cons.mpr ⟨ls_36, (List.forall_mem_cons.mpr ⟨ls_37, (List.forall_mem_cons.mpr ⟨ls_40, (List.forall_mem_cons.mpr ⟨ls_41, (List.forall_mem_cons.mpr ⟨ls_44, (List.forall_mem_cons.mpr ⟨ls_45, (List.forall_mem_cons.mpr ⟨ls_49, (List.forall_mem_cons.mpr ⟨ls_50, (List.forall_mem_cons.mpr ⟨ls_54, (List.forall_mem_cons.mpr ⟨ls_55, (List.forall_mem_cons.mpr ⟨ls_58, (List.forall_mem_cons.mpr ⟨ls_59, (List.forall_mem_cons.mpr ⟨ls_63, (List.forall_mem_cons.mpr ⟨ls_64, (List.forall_mem_cons.mpr ⟨ls_67, (List.forall_mem_cons.mpr ⟨ls_68, (List.forall_mem_cons.mpr ⟨ls_71, (List.forall_mem_cons.mpr ⟨ls_72, (List.forall_mem_cons.mpr ⟨ls_75, (List.forall_mem_cons.mpr ⟨ls_76, (List.forall_mem_cons.mpr ⟨ls_79, (List.forall_mem_cons.mpr ⟨ls_80, (List.forall_mem_cons.mpr ⟨ls_83, (List.forall_mem_cons.mpr ⟨ls_84, (List.forall_mem_cons.mpr ⟨ls_87, (List.forall_mem_cons.mpr ⟨ls_88, (List.forall_mem_cons.mpr ⟨ls_91, (List.forall_mem_cons.mpr ⟨ls_92, (List.forall_mem_cons.mpr ⟨ls_95, (List.forall_mem_cons.mpr ⟨ls_96, (List.forall_mem_cons.mpr ⟨ls_99, (List.forall_mem_cons.mpr ⟨ls_100, (List.forall_mem_cons.mpr ⟨ls_104, (List.forall_mem_cons.mpr ⟨ls_105, (List.forall_mem_cons.mpr ⟨ls_108, (List.forall_mem_cons.mpr ⟨ls_114, (List.forall_mem_cons.mpr ⟨ls_115, (List.forall_mem_cons.mpr ⟨ls_118, (List.forall_mem_cons.mpr ⟨ls_119, (List.forall_mem_cons.mpr ⟨ls_122, (List.forall_mem_cons.mpr ⟨ls_123, (List.forall_mem_cons.mpr ⟨ls_126, (List.forall_mem_cons.mpr ⟨ls_127, (List.forall_mem_cons.mpr ⟨ls_131, (List.forall_mem_cons.mpr ⟨ls_132, (List.forall_mem_cons.mpr ⟨ls_135, (List.forall_mem_cons.mpr ⟨ls_136, (List.forall_mem_cons.mpr ⟨ls_139, (List.forall_mem_cons.mpr ⟨ls_140, (List.forall_mem_cons.mpr ⟨ls_143, (List.forall_mem_cons.mpr ⟨ls_144, (List.forall_mem_cons.mpr ⟨ls_147, (List.forall_mem_cons.mpr ⟨ls_148, (List.forall_mem_cons.mpr ⟨ls_151, (List.forall_mem_cons.mpr ⟨ls_152, (List.forall_mem_cons.mpr ⟨ls_155, (List.forall_mem_cons.mpr ⟨ls_156, (List.forall_mem_cons.mpr ⟨ls_159, (List.forall_mem_cons.mpr ⟨ls_160, (List.forall_mem_cons.mpr ⟨ls_163, (List.forall_mem_cons.mpr ⟨ls_164, (List.forall_mem_cons.mpr ⟨ls_167, (List.forall_mem_cons.mpr ⟨ls_168, (List.forall_mem_cons.mpr ⟨ls_171, (List.forall_mem_cons.mpr ⟨ls_172, (List.forall_mem_cons.mpr ⟨ls_175, (List.forall_mem_cons.mpr ⟨ls_176, (List.forall_mem_cons.mpr ⟨ls_179, (List.forall_mem_cons.mpr ⟨ls_180, (List.forall_mem_cons.mpr ⟨ls_183, (fun _ h => absurd h List.not_mem_nil)⟩)⟩)⟩)⟩)⟩)⟩)⟩)⟩)⟩)⟩)⟩)⟩)⟩)⟩)⟩)⟩)⟩)⟩)⟩)⟩)⟩)⟩)⟩)⟩)⟩)⟩)⟩)⟩)⟩)⟩)⟩)⟩)⟩)⟩)⟩)⟩)⟩)⟩)⟩)⟩)⟩)⟩)⟩)⟩)⟩)⟩)⟩)⟩)⟩)⟩)⟩)⟩)⟩)⟩)⟩)⟩)⟩)⟩)⟩)⟩)⟩)⟩)⟩)⟩)⟩)⟩)⟩)⟩)⟩)⟩)⟩)⟩)⟩)⟩)⟩)⟩)⟩)
theorem MOKL : ab_MOK ZZ MtF wFF bFF vwCl TbL R_law := ⟨⟨(fun _ _ h => by cases h), (fun _ _ h => by cases h), (fun _ _ h => by cases h), (fun _ h => by cases h)⟩, (fun ix k h => by
  obtain ⟨k', h1, h2⟩ := ab_al_all (P := fun ix v => ∃ k, v = .inr k ∧ ab_Site ZZ MtF vwCl R_law ix k) lw_lmo ix _ h
  cases h1
  exact h2), (fun ix k h => by
  obtain ⟨k', h1, h2⟩ := ab_al_all (P := fun ix v => ∃ k, v = .inr k ∧ ab_Site ZZ MtF vwCl R_law ix k) lw_lmo ix _ h
  cases h1)⟩
theorem lw_nj : ∀ ix k, TbL.2.2.2.2 ix ≠ some (.inl k) := fun ix k h => by
  obtain ⟨k', h1, h2⟩ := ab_al_all (P := fun ix v => ∃ k, v = .inr k ∧ ab_Site ZZ MtF vwCl R_law ix k) lw_lmo ix _ h
  cases h1
end
