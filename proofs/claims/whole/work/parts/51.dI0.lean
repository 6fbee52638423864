theorem d_Md_init_0 : decode prog_14_method_1_code 0 = .ok (.aload_n 0, 1) := by decide +kernel
theorem d_Md_init_1 : decode prog_14_method_1_code 1 = .ok (.invokespecial 1, 3) := by decide +kernel
theorem d_Md_init_4 : decode prog_14_method_1_code 4 = .ok (.aload_n 0, 1) := by decide +kernel
theorem d_Md_init_5 : decode prog_14_method_1_code 5 = .ok (.sipush 160, 3) := by decide +kernel
theorem d_Md_init_8 : decode prog_14_method_1_code 8 = .ok (.newarray .int, 2) := by decide +kernel
theorem d_Md_init_10 : decode prog_14_method_1_code 10 = .ok (.dup, 1) := by decide +kernel
theorem d_Md_init_11 : decode prog_14_method_1_code 11 = .ok (.iconst 0, 1) := by decide +kernel
theorem d_Md_init_12 : decode prog_14_method_1_code 12 = .ok (.bipush 7, 2) := by decide +kernel
theorem d_Md_init_14 : decode prog_14_method_1_code 14 = .ok (.iastore, 1) := by decide +kernel
theorem d_Md_init_15 : decode prog_14_method_1_code 15 = .ok (.dup, 1) := by decide +kernel
theorem d_Md_init_16 : decode prog_14_method_1_code 16 = .ok (.iconst 1, 1) := by decide +kernel
theorem d_Md_init_17 : decode prog_14_method_1_code 17 = .ok (.bipush 10, 2) := by decide +kernel
theorem d_Md_init_19 : decode prog_14_method_1_code 19 = .ok (.iastore, 1) := by decide +kernel
theorem d_Md_init_20 : decode prog_14_method_1_code 20 = .ok (.dup, 1) := by decide +kernel
theorem d_Md_init_21 : decode prog_14_method_1_code 21 = .ok (.iconst 2, 1) := by decide +kernel
theorem d_Md_init_22 : decode prog_14_method_1_code 22 = .ok (.bipush 15, 2) := by decide +kernel
theorem d_Md_init_24 : decode prog_14_method_1_code 24 = .ok (.iastore, 1) := by decide +kernel
theorem d_Md_init_25 : decode prog_14_method_1_code 25 = .ok (.dup, 1) := by decide +kernel
theorem d_Md_init_26 : decode prog_14_method_1_code 26 = .ok (.iconst 3, 1) := by decide +kernel
theorem d_Md_init_27 : decode prog_14_method_1_code 27 = .ok (.bipush 20, 2) := by decide +kernel
theorem d_Md_init_29 : decode prog_14_method_1_code 29 = .ok (.iastore, 1) := by decide +kernel
theorem d_Md_init_30 : decode prog_14_method_1_code 30 = .ok (.dup, 1) := by decide +kernel
theorem d_Md_init_31 : decode prog_14_method_1_code 31 = .ok (.iconst 4, 1) := by decide +kernel
theorem d_Md_init_32 : decode prog_14_method_1_code 32 = .ok (.bipush 26, 2) := by decide +kernel
theorem d_Md_init_34 : decode prog_14_method_1_code 34 = .ok (.iastore, 1) := by decide +kernel
theorem d_Md_init_35 : decode prog_14_method_1_code 35 = .ok (.dup, 1) := by decide +kernel
theorem d_Md_init_36 : decode prog_14_method_1_code 36 = .ok (.iconst 5, 1) := by decide +kernel
theorem d_Md_init_37 : decode prog_14_method_1_code 37 = .ok (.bipush 18, 2) := by decide +kernel
theorem d_Md_init_39 : decode prog_14_method_1_code 39 = .ok (.iastore, 1) := by decide +kernel
theorem d_Md_init_40 : decode prog_14_method_1_code 40 = .ok (.dup, 1) := by decide +kernel
theorem d_Md_init_41 : decode prog_14_method_1_code 41 = .ok (.bipush 6, 2) := by decide +kernel
theorem d_Md_init_43 : decode prog_14_method_1_code 43 = .ok (.bipush 20, 2) := by decide +kernel
theorem d_Md_init_45 : decode prog_14_method_1_code 45 = .ok (.iastore, 1) := by decide +kernel
theorem d_Md_init_46 : decode prog_14_method_1_code 46 = .ok (.dup, 1) := by decide +kernel
theorem d_Md_init_47 : decode prog_14_method_1_code 47 = .ok (.bipush 7, 2) := by decide +kernel
theorem d_Md_init_49 : decode prog_14_method_1_code 49 = .ok (.bipush 24, 2) := by decide +kernel
theorem d_Md_init_51 : decode prog_14_method_1_code 51 = .ok (.iastore, 1) := by decide +kernel
theorem d_Md_init_52 : decode prog_14_method_1_code 52 = .ok (.dup, 1) := by decide +kernel
theorem d_Md_init_53 : decode prog_14_method_1_code 53 = .ok (.bipush 8, 2) := by decide +kernel
theorem d_Md_init_55 : decode prog_14_method_1_code 55 = .ok (.bipush 30, 2) := by decide +kernel
theorem d_Md_init_57 : decode prog_14_method_1_code 57 = .ok (.iastore, 1) := by decide +kernel
theorem d_Md_init_58 : decode prog_14_method_1_code 58 = .ok (.dup, 1) := by decide +kernel
theorem d_Md_init_59 : decode prog_14_method_1_code 59 = .ok (.bipush 9, 2) := by decide +kernel
theorem d_Md_init_61 : decode prog_14_method_1_code 61 = .ok (.bipush 18, 2) := by decide +kernel
theorem d_Md_init_63 : decode prog_14_method_1_code 63 = .ok (.iastore, 1) := by decide +kernel
theorem d_Md_init_64 : decode prog_14_method_1_code 64 = .ok (.dup, 1) := by decide +kernel
theorem d_Md_init_65 : decode prog_14_method_1_code 65 = .ok (.bipush 10, 2) := by decide +kernel
theorem d_Md_init_67 : decode prog_14_method_1_code 67 = .ok (.bipush 20, 2) := by decide +kernel
theorem d_Md_init_69 : decode prog_14_method_1_code 69 = .ok (.iastore, 1) := by decide +kernel
theorem d_Md_init_70 : decode prog_14_method_1_code 70 = .ok (.dup, 1) := by decide +kernel
theorem d_Md_init_71 : decode prog_14_method_1_code 71 = .ok (.bipush 11, 2) := by decide +kernel
theorem d_Md_init_73 : decode prog_14_method_1_code 73 = .ok (.bipush 24, 2) := by decide +kernel
theorem d_Md_init_75 : decode prog_14_method_1_code 75 = .ok (.iastore, 1) := by decide +kernel
theorem d_Md_init_76 : decode prog_14_method_1_code 76 = .ok (.dup, 1) := by decide +kernel
theorem d_Md_init_77 : decode prog_14_method_1_code 77 = .ok (.bipush 12, 2) := by decide +kernel
theorem d_Md_init_79 : decode prog_14_method_1_code 79 = .ok (.bipush 26, 2) := by decide +kernel
theorem d_Md_init_81 : decode prog_14_method_1_code 81 = .ok (.iastore, 1) := by decide +kernel
theorem d_Md_init_82 : decode prog_14_method_1_code 82 = .ok (.dup, 1) := by decide +kernel
theorem d_Md_init_83 : decode prog_14_method_1_code 83 = .ok (.bipush 13, 2) := by decide +kernel
theorem d_Md_init_85 : decode prog_14_method_1_code 85 = .ok (.bipush 30, 2) := by decide +kernel
theorem d_Md_init_87 : decode prog_14_method_1_code 87 = .ok (.iastore, 1) := by decide +kernel
theorem d_Md_init_88 : decode prog_14_method_1_code 88 = .ok (.dup, 1) := by decide +kernel
theorem d_Md_init_89 : decode prog_14_method_1_code 89 = .ok (.bipush 14, 2) := by decide +kernel
theorem d_Md_init_91 : decode prog_14_method_1_code 91 = .ok (.bipush 22, 2) := by decide +kernel
theorem d_Md_init_93 : decode prog_14_method_1_code 93 = .ok (.iastore, 1) := by decide +kernel
theorem d_Md_init_94 : decode prog_14_method_1_code 94 = .ok (.dup, 1) := by decide +kernel
theorem d_Md_init_95 : decode prog_14_method_1_code 95 = .ok (.bipush 15, 2) := by decide +kernel
theorem d_Md_init_97 : decode prog_14_method_1_code 97 = .ok (.bipush 24, 2) := by decide +kernel
theorem d_Md_init_99 : decode prog_14_method_1_code 99 = .ok (.iastore, 1) := by decide +kernel
theorem d_Md_init_100 : decode prog_14_method_1_code 100 = .ok (.dup, 1) := by decide +kernel
theorem d_Md_init_101 : decode prog_14_method_1_code 101 = .ok (.bipush 16, 2) := by decide +kernel
theorem d_Md_init_103 : decode prog_14_method_1_code 103 = .ok (.bipush 28, 2) := by decide +kernel
theorem d_Md_init_105 : decode prog_14_method_1_code 105 = .ok (.iastore, 1) := by decide +kernel
theorem d_Md_init_106 : decode prog_14_method_1_code 106 = .ok (.dup, 1) := by decide +kernel
theorem d_Md_init_107 : decode prog_14_method_1_code 107 = .ok (.bipush 17, 2) := by decide +kernel
theorem d_Md_init_109 : decode prog_14_method_1_code 109 = .ok (.bipush 30, 2) := by decide +kernel
theorem d_Md_init_111 : decode prog_14_method_1_code 111 = .ok (.iastore, 1) := by decide +kernel
theorem d_Md_init_112 : decode prog_14_method_1_code 112 = .ok (.dup, 1) := by decide +kernel
theorem d_Md_init_113 : decode prog_14_method_1_code 113 = .ok (.bipush 18, 2) := by decide +kernel
theorem d_Md_init_115 : decode prog_14_method_1_code 115 = .ok (.bipush 28, 2) := by decide +kernel
theorem d_Md_init_117 : decode prog_14_method_1_code 117 = .ok (.iastore, 1) := by decide +kernel
theorem d_Md_init_118 : decode prog_14_method_1_code 118 = .ok (.dup, 1) := by decide +kernel
theorem d_Md_init_119 : decode prog_14_method_1_code 119 = .ok (.bipush 19, 2) := by decide +kernel
theorem d_Md_init_121 : decode prog_14_method_1_code 121 = .ok (.bipush 28, 2) := by decide +kernel
theorem d_Md_init_123 : decode prog_14_method_1_code 123 = .ok (.iastore, 1) := by decide +kernel
theorem d_Md_init_124 : decode prog_14_method_1_code 124 = .ok (.dup, 1) := by decide +kernel
theorem d_Md_init_125 : decode prog_14_method_1_code 125 = .ok (.bipush 20, 2) := by decide +kernel
theorem d_Md_init_127 : decode prog_14_method_1_code 127 = .ok (.bipush 28, 2) := by decide +kernel
theorem d_Md_init_129 : decode prog_14_method_1_code 129 = .ok (.iastore, 1) := by decide +kernel
theorem d_Md_init_130 : decode prog_14_method_1_code 130 = .ok (.dup, 1) := by decide +kernel
theorem d_Md_init_131 : decode prog_14_method_1_code 131 = .ok (.bipush 21, 2) := by decide +kernel
theorem d_Md_init_133 : decode prog_14_method_1_code 133 = .ok (.bipush 28, 2) := by decide +kernel
theorem d_Md_init_135 : decode prog_14_method_1_code 135 = .ok (.iastore, 1) := by decide +kernel
theorem d_Md_init_136 : decode prog_14_method_1_code 136 = .ok (.dup, 1) := by decide +kernel
theorem d_Md_init_137 : decode prog_14_method_1_code 137 = .ok (.bipush 22, 2) := by decide +kernel
theorem d_Md_init_139 : decode prog_14_method_1_code 139 = .ok (.bipush 30, 2) := by decide +kernel
theorem d_Md_init_141 : decode prog_14_method_1_code 141 = .ok (.iastore, 1) := by decide +kernel
theorem d_Md_init_142 : decode prog_14_method_1_code 142 = .ok (.dup, 1) := by decide +kernel
theorem d_Md_init_143 : decode prog_14_method_1_code 143 = .ok (.bipush 23, 2) := by decide +kernel
theorem d_Md_init_145 : decode prog_14_method_1_code 145 = .ok (.bipush 30, 2) := by decide +kernel
theorem d_Md_init_147 : decode prog_14_method_1_code 147 = .ok (.iastore, 1) := by decide +kernel
theorem d_Md_init_148 : decode prog_14_method_1_code 148 = .ok (.dup, 1) := by decide +kernel
theorem d_Md_init_149 : decode prog_14_method_1_code 149 = .ok (.bipush 24, 2) := by decide +kernel
theorem d_Md_init_151 : decode prog_14_method_1_code 151 = .ok (.bipush 26, 2) := by decide +kernel
theorem d_Md_init_153 : decode prog_14_method_1_code 153 = .ok (.iastore, 1) := by decide +kernel
theorem d_Md_init_154 : decode prog_14_method_1_code 154 = .ok (.dup, 1) := by decide +kernel
theorem d_Md_init_155 : decode prog_14_method_1_code 155 = .ok (.bipush 25, 2) := by decide +kernel
theorem d_Md_init_157 : decode prog_14_method_1_code 157 = .ok (.bipush 28, 2) := by decide +kernel
theorem d_Md_init_159 : decode prog_14_method_1_code 159 = .ok (.iastore, 1) := by decide +kernel
theorem d_Md_init_160 : decode prog_14_method_1_code 160 = .ok (.dup, 1) := by decide +kernel
theorem d_Md_init_161 : decode prog_14_method_1_code 161 = .ok (.bipush 26, 2) := by decide +kernel
theorem d_Md_init_163 : decode prog_14_method_1_code 163 = .ok (.bipush 30, 2) := by decide +kernel
theorem d_Md_init_165 : decode prog_14_method_1_code 165 = .ok (.iastore, 1) := by decide +kernel
theorem d_Md_init_166 : decode prog_14_method_1_code 166 = .ok (.dup, 1) := by decide +kernel
theorem d_Md_init_167 : decode prog_14_method_1_code 167 = .ok (.bipush 27, 2) := by decide +kernel
theorem d_Md_init_169 : decode prog_14_method_1_code 169 = .ok (.bipush 30, 2) := by decide +kernel
theorem d_Md_init_171 : decode prog_14_method_1_code 171 = .ok (.iastore, 1) := by decide +kernel
theorem d_Md_init_172 : decode prog_14_method_1_code 172 = .ok (.dup, 1) := by decide +kernel
theorem d_Md_init_173 : decode prog_14_method_1_code 173 = .ok (.bipush 28, 2) := by decide +kernel
theorem d_Md_init_175 : decode prog_14_method_1_code 175 = .ok (.bipush 30, 2) := by decide +kernel
theorem d_Md_init_177 : decode prog_14_method_1_code 177 = .ok (.iastore, 1) := by decide +kernel
theorem d_Md_init_178 : decode prog_14_method_1_code 178 = .ok (.dup, 1) := by decide +kernel
theorem d_Md_init_179 : decode prog_14_method_1_code 179 = .ok (.bipush 29, 2) := by decide +kernel
theorem d_Md_init_181 : decode prog_14_method_1_code 181 = .ok (.bipush 30, 2) := by decide +kernel
theorem d_Md_init_183 : decode prog_14_method_1_code 183 = .ok (.iastore, 1) := by decide +kernel
theorem d_Md_init_184 : decode prog_14_method_1_code 184 = .ok (.dup, 1) := by decide +kernel
theorem d_Md_init_185 : decode prog_14_method_1_code 185 = .ok (.bipush 30, 2) := by decide +kernel
theorem d_Md_init_187 : decode prog_14_method_1_code 187 = .ok (.bipush 30, 2) := by decide +kernel
theorem d_Md_init_189 : decode prog_14_method_1_code 189 = .ok (.iastore, 1) := by decide +kernel
theorem d_Md_init_190 : decode prog_14_method_1_code 190 = .ok (.dup, 1) := by decide +kernel
theorem d_Md_init_191 : decode prog_14_method_1_code 191 = .ok (.bipush 31, 2) := by decide +kernel
theorem d_Md_init_193 : decode prog_14_method_1_code 193 = .ok (.bipush 30, 2) := by decide +kernel
theorem d_Md_init_195 : decode prog_14_method_1_code 195 = .ok (.iastore, 1) := by decide +kernel
theorem d_Md_init_196 : decode prog_14_method_1_code 196 = .ok (.dup, 1) := by decide +kernel
theorem d_Md_init_197 : decode prog_14_method_1_code 197 = .ok (.bipush 32, 2) := by decide +kernel
theorem d_Md_init_199 : decode prog_14_method_1_code 199 = .ok (.bipush 30, 2) := by decide +kernel
theorem d_Md_init_201 : decode prog_14_method_1_code 201 = .ok (.iastore, 1) := by decide +kernel
theorem d_Md_init_202 : decode prog_14_method_1_code 202 = .ok (.dup, 1) := by decide +kernel
theorem d_Md_init_203 : decode prog_14_method_1_code 203 = .ok (.bipush 33, 2) := by decide +kernel
theorem d_Md_init_205 : decode prog_14_method_1_code 205 = .ok (.bipush 30, 2) := by decide +kernel
theorem d_Md_init_207 : decode prog_14_method_1_code 207 = .ok (.iastore, 1) := by decide +kernel
theorem d_Md_init_208 : decode prog_14_method_1_code 208 = .ok (.dup, 1) := by decide +kernel
theorem d_Md_init_209 : decode prog_14_method_1_code 209 = .ok (.bipush 34, 2) := by decide +kernel
theorem d_Md_init_211 : decode prog_14_method_1_code 211 = .ok (.bipush 30, 2) := by decide +kernel
theorem d_Md_init_213 : decode prog_14_method_1_code 213 = .ok (.iastore, 1) := by decide +kernel
theorem d_Md_init_214 : decode prog_14_method_1_code 214 = .ok (.dup, 1) := by decide +kernel
theorem d_Md_init_215 : decode prog_14_method_1_code 215 = .ok (.bipush 35, 2) := by decide +kernel
theorem d_Md_init_217 : decode prog_14_method_1_code 217 = .ok (.bipush 30, 2) := by decide +kernel
theorem d_Md_init_219 : decode prog_14_method_1_code 219 = .ok (.iastore, 1) := by decide +kernel
theorem d_Md_init_220 : decode prog_14_method_1_code 220 = .ok (.dup, 1) := by decide +kernel
theorem d_Md_init_221 : decode prog_14_method_1_code 221 = .ok (.bipush 36, 2) := by decide +kernel
theorem d_Md_init_223 : decode prog_14_method_1_code 223 = .ok (.bipush 30, 2) := by decide +kernel
theorem d_Md_init_225 : decode prog_14_method_1_code 225 = .ok (.iastore, 1) := by decide +kernel
theorem d_Md_init_226 : decode prog_14_method_1_code 226 = .ok (.dup, 1) := by decide +kernel
theorem d_Md_init_227 : decode prog_14_method_1_code 227 = .ok (.bipush 37, 2) := by decide +kernel
theorem d_Md_init_229 : decode prog_14_method_1_code 229 = .ok (.bipush 30, 2) := by decide +kernel
theorem d_Md_init_231 : decode prog_14_method_1_code 231 = .ok (.iastore, 1) := by decide +kernel
theorem d_Md_init_232 : decode prog_14_method_1_code 232 = .ok (.dup, 1) := by decide +kernel
theorem d_Md_init_233 : decode prog_14_method_1_code 233 = .ok (.bipush 38, 2) := by decide +kernel
theorem d_Md_init_235 : decode prog_14_method_1_code 235 = .ok (.bipush 30, 2) := by decide +kernel
theorem d_Md_init_237 : decode prog_14_method_1_code 237 = .ok (.iastore, 1) := by decide +kernel
theorem d_Md_init_238 : decode prog_14_method_1_code 238 = .ok (.dup, 1) := by decide +kernel
theorem d_Md_init_239 : decode prog_14_method_1_code 239 = .ok (.bipush 39, 2) := by decide +kernel
theorem d_Md_init_241 : decode prog_14_method_1_code 241 = .ok (.bipush 30, 2) := by decide +kernel
theorem d_Md_init_243 : decode prog_14_method_1_code 243 = .ok (.iastore, 1) := by decide +kernel
theorem d_Md_init_244 : decode prog_14_method_1_code 244 = .ok (.dup, 1) := by decide +kernel
theorem d_Md_init_245 : decode prog_14_method_1_code 245 = .ok (.bipush 40, 2) := by decide +kernel
theorem d_Md_init_247 : decode prog_14_method_1_code 247 = .ok (.bipush 10, 2) := by decide +kernel
theorem d_Md_init_249 : decode prog_14_method_1_code 249 = .ok (.iastore, 1) := by decide +kernel
theorem d_Md_init_250 : decode prog_14_method_1_code 250 = .ok (.dup, 1) := by decide +kernel
theorem d_Md_init_251 : decode prog_14_method_1_code 251 = .ok (.bipush 41, 2) := by decide +kernel
theorem d_Md_init_253 : decode prog_14_method_1_code 253 = .ok (.bipush 16, 2) := by decide +kernel
theorem d_Md_init_255 : decode prog_14_method_1_code 255 = .ok (.iastore, 1) := by decide +kernel
theorem d_Md_init_256 : decode prog_14_method_1_code 256 = .ok (.dup, 1) := by decide +kernel
theorem d_Md_init_257 : decode prog_14_method_1_code 257 = .ok (.bipush 42, 2) := by decide +kernel
theorem d_Md_init_259 : decode prog_14_method_1_code 259 = .ok (.bipush 26, 2) := by decide +kernel
theorem d_Md_init_261 : decode prog_14_method_1_code 261 = .ok (.iastore, 1) := by decide +kernel
theorem d_Md_init_262 : decode prog_14_method_1_code 262 = .ok (.dup, 1) := by decide +kernel
theorem d_Md_init_263 : decode prog_14_method_1_code 263 = .ok (.bipush 43, 2) := by decide +kernel
theorem d_Md_init_265 : decode prog_14_method_1_code 265 = .ok (.bipush 18, 2) := by decide +kernel
theorem d_Md_init_267 : decode prog_14_method_1_code 267 = .ok (.iastore, 1) := by decide +kernel
theorem d_Md_init_268 : decode prog_14_method_1_code 268 = .ok (.dup, 1) := by decide +kernel
theorem d_Md_init_269 : decode prog_14_method_1_code 269 = .ok (.bipush 44, 2) := by decide +kernel
theorem d_Md_init_271 : decode prog_14_method_1_code 271 = .ok (.bipush 24, 2) := by decide +kernel
theorem d_Md_init_273 : decode prog_14_method_1_code 273 = .ok (.iastore, 1) := by decide +kernel
theorem d_Md_init_274 : decode prog_14_method_1_code 274 = .ok (.dup, 1) := by decide +kernel
theorem d_Md_init_275 : decode prog_14_method_1_code 275 = .ok (.bipush 45, 2) := by decide +kernel
theorem d_Md_init_277 : decode prog_14_method_1_code 277 = .ok (.bipush 16, 2) := by decide +kernel
theorem d_Md_init_279 : decode prog_14_method_1_code 279 = .ok (.iastore, 1) := by decide +kernel
theorem d_Md_init_280 : decode prog_14_method_1_code 280 = .ok (.dup, 1) := by decide +kernel
theorem d_Md_init_281 : decode prog_14_method_1_code 281 = .ok (.bipush 46, 2) := by decide +kernel
theorem d_Md_init_283 : decode prog_14_method_1_code 283 = .ok (.bipush 18, 2) := by decide +kernel
theorem d_Md_init_285 : decode prog_14_method_1_code 285 = .ok (.iastore, 1) := by decide +kernel
theorem d_Md_init_286 : decode prog_14_method_1_code 286 = .ok (.dup, 1) := by decide +kernel
theorem d_Md_init_287 : decode prog_14_method_1_code 287 = .ok (.bipush 47, 2) := by decide +kernel
theorem d_Md_init_289 : decode prog_14_method_1_code 289 = .ok (.bipush 22, 2) := by decide +kernel
theorem d_Md_init_291 : decode prog_14_method_1_code 291 = .ok (.iastore, 1) := by decide +kernel
theorem d_Md_init_292 : decode prog_14_method_1_code 292 = .ok (.dup, 1) := by decide +kernel
theorem d_Md_init_293 : decode prog_14_method_1_code 293 = .ok (.bipush 48, 2) := by decide +kernel
theorem d_Md_init_295 : decode prog_14_method_1_code 295 = .ok (.bipush 22, 2) := by decide +kernel
theorem d_Md_init_297 : decode prog_14_method_1_code 297 = .ok (.iastore, 1) := by decide +kernel
theorem d_Md_init_298 : decode prog_14_method_1_code 298 = .ok (.dup, 1) := by decide +kernel
theorem d_Md_init_299 : decode prog_14_method_1_code 299 = .ok (.bipush 49, 2) := by decide +kernel
theorem d_Md_init_301 : decode prog_14_method_1_code 301 = .ok (.bipush 26, 2) := by decide +kernel
theorem d_Md_init_303 : decode prog_14_method_1_code 303 = .ok (.iastore, 1) := by decide +kernel
theorem d_Md_init_304 : decode prog_14_method_1_code 304 = .ok (.dup, 1) := by decide +kernel
theorem d_Md_init_305 : decode prog_14_method_1_code 305 = .ok (.bipush 50, 2) := by decide +kernel
theorem d_Md_init_307 : decode prog_14_method_1_code 307 = .ok (.bipush 30, 2) := by decide +kernel
theorem d_Md_init_309 : decode prog_14_method_1_code 309 = .ok (.iastore, 1) := by decide +kernel
theorem d_Md_init_310 : decode prog_14_method_1_code 310 = .ok (.dup, 1) := by decide +kernel
theorem d_Md_init_311 : decode prog_14_method_1_code 311 = .ok (.bipush 51, 2) := by decide +kernel
theorem d_Md_init_313 : decode prog_14_method_1_code 313 = .ok (.bipush 22, 2) := by decide +kernel
theorem d_Md_init_315 : decode prog_14_method_1_code 315 = .ok (.iastore, 1) := by decide +kernel
theorem d_Md_init_316 : decode prog_14_method_1_code 316 = .ok (.dup, 1) := by decide +kernel
theorem d_Md_init_317 : decode prog_14_method_1_code 317 = .ok (.bipush 52, 2) := by decide +kernel
theorem d_Md_init_319 : decode prog_14_method_1_code 319 = .ok (.bipush 22, 2) := by decide +kernel
theorem d_Md_init_321 : decode prog_14_method_1_code 321 = .ok (.iastore, 1) := by decide +kernel
theorem d_Md_init_322 : decode prog_14_method_1_code 322 = .ok (.dup, 1) := by decide +kernel
theorem d_Md_init_323 : decode prog_14_method_1_code 323 = .ok (.bipush 53, 2) := by decide +kernel
theorem d_Md_init_325 : decode prog_14_method_1_code 325 = .ok (.bipush 24, 2) := by decide +kernel
theorem d_Md_init_327 : decode prog_14_method_1_code 327 = .ok (.iastore, 1) := by decide +kernel
theorem d_Md_init_328 : decode prog_14_method_1_code 328 = .ok (.dup, 1) := by decide +kernel
theorem d_Md_init_329 : decode prog_14_method_1_code 329 = .ok (.bipush 54, 2) := by decide +kernel
theorem d_Md_init_331 : decode prog_14_method_1_code 331 = .ok (.bipush 24, 2) := by decide +kernel
theorem d_Md_init_333 : decode prog_14_method_1_code 333 = .ok (.iastore, 1) := by decide +kernel
theorem d_Md_init_334 : decode prog_14_method_1_code 334 = .ok (.dup, 1) := by decide +kernel
theorem d_Md_init_335 : decode prog_14_method_1_code 335 = .ok (.bipush 55, 2) := by decide +kernel
theorem d_Md_init_337 : decode prog_14_method_1_code 337 = .ok (.bipush 28, 2) := by decide +kernel
theorem d_Md_init_339 : decode prog_14_method_1_code 339 = .ok (.iastore, 1) := by decide +kernel
theorem d_Md_init_340 : decode prog_14_method_1_code 340 = .ok (.dup, 1) := by decide +kernel
theorem d_Md_init_341 : decode prog_14_method_1_code 341 = .ok (.bipush 56, 2) := by decide +kernel
theorem d_Md_init_343 : decode prog_14_method_1_code 343 = .ok (.bipush 28, 2) := by decide +kernel
theorem d_Md_init_345 : decode prog_14_method_1_code 345 = .ok (.iastore, 1) := by decide +kernel
theorem d_Md_init_346 : decode prog_14_method_1_code 346 = .ok (.dup, 1) := by decide +kernel
theorem d_Md_init_347 : decode prog_14_method_1_code 347 = .ok (.bipush 57, 2) := by decide +kernel
theorem d_Md_init_349 : decode prog_14_method_1_code 349 = .ok (.bipush 26, 2) := by decide +kernel
theorem d_Md_init_351 : decode prog_14_method_1_code 351 = .ok (.iastore, 1) := by decide +kernel
theorem d_Md_init_352 : decode prog_14_method_1_code 352 = .ok (.dup, 1) := by decide +kernel
theorem d_Md_init_353 : decode prog_14_method_1_code 353 = .ok (.bipush 58, 2) := by decide +kernel
theorem d_Md_init_355 : decode prog_14_method_1_code 355 = .ok (.bipush 26, 2) := by decide +kernel
theorem d_Md_init_357 : decode prog_14_method_1_code 357 = .ok (.iastore, 1) := by decide +kernel
theorem d_Md_init_358 : decode prog_14_method_1_code 358 = .ok (.dup, 1) := by decide +kernel
theorem d_Md_init_359 : decode prog_14_method_1_code 359 = .ok (.bipush 59, 2) := by decide +kernel
theorem d_Md_init_361 : decode prog_14_method_1_code 361 = .ok (.bipush 26, 2) := by decide +kernel
theorem d_Md_init_363 : decode prog_14_method_1_code 363 = .ok (.iastore, 1) := by decide +kernel
theorem d_Md_init_364 : decode prog_14_method_1_code 364 = .ok (.dup, 1) := by decide +kernel
theorem d_Md_init_365 : decode prog_14_method_1_code 365 = .ok (.bipush 60, 2) := by decide +kernel
theorem d_Md_init_367 : decode prog_14_method_1_code 367 = .ok (.bipush 26, 2) := by decide +kernel
theorem d_Md_init_369 : decode prog_14_method_1_code 369 = .ok (.iastore, 1) := by decide +kernel
theorem d_Md_init_370 : decode prog_14_method_1_code 370 = .ok (.dup, 1) := by decide +kernel
theorem d_Md_init_371 : decode prog_14_method_1_code 371 = .ok (.bipush 61, 2) := by decide +kernel
theorem d_Md_init_373 : decode prog_14_method_1_code 373 = .ok (.bipush 28, 2) := by decide +kernel
theorem d_Md_init_375 : decode prog_14_method_1_code 375 = .ok (.iastore, 1) := by decide +kernel
theorem d_Md_init_376 : decode prog_14_method_1_code 376 = .ok (.dup, 1) := by decide +kernel
theorem d_Md_init_377 : decode prog_14_method_1_code 377 = .ok (.bipush 62, 2) := by decide +kernel
theorem d_Md_init_379 : decode prog_14_method_1_code 379 = .ok (.bipush 28, 2) := by decide +kernel
theorem d_Md_init_381 : decode prog_14_method_1_code 381 = .ok (.iastore, 1) := by decide +kernel
theorem d_Md_init_382 : decode prog_14_method_1_code 382 = .ok (.dup, 1) := by decide +kernel
theorem d_Md_init_383 : decode prog_14_method_1_code 383 = .ok (.bipush 63, 2) := by decide +kernel
theorem d_Md_init_385 : decode prog_14_method_1_code 385 = .ok (.bipush 28, 2) := by decide +kernel
theorem d_Md_init_387 : decode prog_14_method_1_code 387 = .ok (.iastore, 1) := by decide +kernel
theorem d_Md_init_388 : decode prog_14_method_1_code 388 = .ok (.dup, 1) := by decide +kernel
theorem d_Md_init_389 : decode prog_14_method_1_code 389 = .ok (.bipush 64, 2) := by decide +kernel
theorem d_Md_init_391 : decode prog_14_method_1_code 391 = .ok (.bipush 28, 2) := by decide +kernel
theorem d_Md_init_393 : decode prog_14_method_1_code 393 = .ok (.iastore, 1) := by decide +kernel
theorem d_Md_init_394 : decode prog_14_method_1_code 394 = .ok (.dup, 1) := by decide +kernel
theorem d_Md_init_395 : decode prog_14_method_1_code 395 = .ok (.bipush 65, 2) := by decide +kernel
theorem d_Md_init_397 : decode prog_14_method_1_code 397 = .ok (.bipush 28, 2) := by decide +kernel
theorem d_Md_init_399 : decode prog_14_method_1_code 399 = .ok (.iastore, 1) := by decide +kernel
theorem d_Md_init_400 : decode prog_14_method_1_code 400 = .ok (.dup, 1) := by decide +kernel
theorem d_Md_init_401 : decode prog_14_method_1_code 401 = .ok (.bipush 66, 2) := by decide +kernel
theorem d_Md_init_403 : decode prog_14_method_1_code 403 = .ok (.bipush 28, 2) := by decide +kernel
theorem d_Md_init_405 : decode prog_14_method_1_code 405 = .ok (.iastore, 1) := by decide +kernel
theorem d_Md_init_406 : decode prog_14_method_1_code 406 = .ok (.dup, 1) := by decide +kernel
theorem d_Md_init_407 : decode prog_14_method_1_code 407 = .ok (.bipush 67, 2) := by decide +kernel
theorem d_Md_init_409 : decode prog_14_method_1_code 409 = .ok (.bipush 28, 2) := by decide +kernel
theorem d_Md_init_411 : decode prog_14_method_1_code 411 = .ok (.iastore, 1) := by decide +kernel
theorem d_Md_init_412 : decode prog_14_method_1_code 412 = .ok (.dup, 1) := by decide +kernel
theorem d_Md_init_413 : decode prog_14_method_1_code 413 = .ok (.bipush 68, 2) := by decide +kernel
theorem d_Md_init_415 : decode prog_14_method_1_code 415 = .ok (.bipush 28, 2) := by decide +kernel
theorem d_Md_init_417 : decode prog_14_method_1_code 417 = .ok (.iastore, 1) := by decide +kernel
theorem d_Md_init_418 : decode prog_14_method_1_code 418 = .ok (.dup, 1) := by decide +kernel
theorem d_Md_init_419 : decode prog_14_method_1_code 419 = .ok (.bipush 69, 2) := by decide +kernel
theorem d_Md_init_421 : decode prog_14_method_1_code 421 = .ok (.bipush 28, 2) := by decide +kernel
theorem d_Md_init_423 : decode prog_14_method_1_code 423 = .ok (.iastore, 1) := by decide +kernel
theorem d_Md_init_424 : decode prog_14_method_1_code 424 = .ok (.dup, 1) := by decide +kernel
theorem d_Md_init_425 : decode prog_14_method_1_code 425 = .ok (.bipush 70, 2) := by decide +kernel
theorem d_Md_init_427 : decode prog_14_method_1_code 427 = .ok (.bipush 28, 2) := by decide +kernel
theorem d_Md_init_429 : decode prog_14_method_1_code 429 = .ok (.iastore, 1) := by decide +kernel
theorem d_Md_init_430 : decode prog_14_method_1_code 430 = .ok (.dup, 1) := by decide +kernel
theorem d_Md_init_431 : decode prog_14_method_1_code 431 = .ok (.bipush 71, 2) := by decide +kernel
theorem d_Md_init_433 : decode prog_14_method_1_code 433 = .ok (.bipush 28, 2) := by decide +kernel
theorem d_Md_init_435 : decode prog_14_method_1_code 435 = .ok (.iastore, 1) := by decide +kernel
theorem d_Md_init_436 : decode prog_14_method_1_code 436 = .ok (.dup, 1) := by decide +kernel
theorem d_Md_init_437 : decode prog_14_method_1_code 437 = .ok (.bipush 72, 2) := by decide +kernel
theorem d_Md_init_439 : decode prog_14_method_1_code 439 = .ok (.bipush 28, 2) := by decide +kernel
theorem d_Md_init_441 : decode prog_14_method_1_code 441 = .ok (.iastore, 1) := by decide +kernel
theorem d_Md_init_442 : decode prog_14_method_1_code 442 = .ok (.dup, 1) := by decide +kernel
theorem d_Md_init_443 : decode prog_14_method_1_code 443 = .ok (.bipush 73, 2) := by decide +kernel
theorem d_Md_init_445 : decode prog_14_method_1_code 445 = .ok (.bipush 28, 2) := by decide +kernel
theorem d_Md_init_447 : decode prog_14_method_1_code 447 = .ok (.iastore, 1) := by decide +kernel
theorem d_Md_init_448 : decode prog_14_method_1_code 448 = .ok (.dup, 1) := by decide +kernel
theorem d_Md_init_449 : decode prog_14_method_1_code 449 = .ok (.bipush 74, 2) := by decide +kernel
theorem d_Md_init_451 : decode prog_14_method_1_code 451 = .ok (.bipush 28, 2) := by decide +kernel
theorem d_Md_init_453 : decode prog_14_method_1_code 453 = .ok (.iastore, 1) := by decide +kernel
theorem d_Md_init_454 : decode prog_14_method_1_code 454 = .ok (.dup, 1) := by decide +kernel
theorem d_Md_init_455 : decode prog_14_method_1_code 455 = .ok (.bipush 75, 2) := by decide +kernel
theorem d_Md_init_457 : decode prog_14_method_1_code 457 = .ok (.bipush 28, 2) := by decide +kernel
theorem d_Md_init_459 : decode prog_14_method_1_code 459 = .ok (.iastore, 1) := by decide +kernel
theorem d_Md_init_460 : decode prog_14_method_1_code 460 = .ok (.dup, 1) := by decide +kernel
theorem d_Md_init_461 : decode prog_14_method_1_code 461 = .ok (.bipush 76, 2) := by decide +kernel
theorem d_Md_init_463 : decode prog_14_method_1_code 463 = .ok (.bipush 28, 2) := by decide +kernel
theorem d_Md_init_465 : decode prog_14_method_1_code 465 = .ok (.iastore, 1) := by decide +kernel
theorem d_Md_init_466 : decode prog_14_method_1_code 466 = .ok (.dup, 1) := by decide +kernel
theorem d_Md_init_467 : decode prog_14_method_1_code 467 = .ok (.bipush 77, 2) := by decide +kernel
theorem d_Md_init_469 : decode prog_14_method_1_code 469 = .ok (.bipush 28, 2) := by decide +kernel
theorem d_Md_init_471 : decode prog_14_method_1_code 471 = .ok (.iastore, 1) := by decide +kernel
theorem d_Md_init_472 : decode prog_14_method_1_code 472 = .ok (.dup, 1) := by decide +kernel
theorem d_Md_init_473 : decode prog_14_method_1_code 473 = .ok (.bipush 78, 2) := by decide +kernel
theorem d_Md_init_475 : decode prog_14_method_1_code 475 = .ok (.bipush 28, 2) := by decide +kernel
theorem d_Md_init_477 : decode prog_14_method_1_code 477 = .ok (.iastore, 1) := by decide +kernel
theorem d_Md_init_478 : decode prog_14_method_1_code 478 = .ok (.dup, 1) := by decide +kernel
theorem d_Md_init_479 : decode prog_14_method_1_code 479 = .ok (.bipush 79, 2) := by decide +kernel
theorem d_Md_init_481 : decode prog_14_method_1_code 481 = .ok (.bipush 28, 2) := by decide +kernel
theorem d_Md_init_483 : decode prog_14_method_1_code 483 = .ok (.iastore, 1) := by decide +kernel
theorem d_Md_init_484 : decode prog_14_method_1_code 484 = .ok (.dup, 1) := by decide +kernel
theorem d_Md_init_485 : decode prog_14_method_1_code 485 = .ok (.bipush 80, 2) := by decide +kernel
theorem d_Md_init_487 : decode prog_14_method_1_code 487 = .ok (.bipush 13, 2) := by decide +kernel
theorem d_Md_init_489 : decode prog_14_method_1_code 489 = .ok (.iastore, 1) := by decide +kernel
theorem d_Md_init_490 : decode prog_14_method_1_code 490 = .ok (.dup, 1) := by decide +kernel
theorem d_Md_init_491 : decode prog_14_method_1_code 491 = .ok (.bipush 81, 2) := by decide +kernel
theorem d_Md_init_493 : decode prog_14_method_1_code 493 = .ok (.bipush 22, 2) := by decide +kernel
theorem d_Md_init_495 : decode prog_14_method_1_code 495 = .ok (.iastore, 1) := by decide +kernel
theorem d_Md_init_496 : decode prog_14_method_1_code 496 = .ok (.dup, 1) := by decide +kernel
theorem d_Md_init_497 : decode prog_14_method_1_code 497 = .ok (.bipush 82, 2) := by decide +kernel
theorem d_Md_init_499 : decode prog_14_method_1_code 499 = .ok (.bipush 18, 2) := by decide +kernel
theorem d_Md_init_501 : decode prog_14_method_1_code 501 = .ok (.iastore, 1) := by decide +kernel
theorem d_Md_init_502 : decode prog_14_method_1_code 502 = .ok (.dup, 1) := by decide +kernel
theorem d_Md_init_503 : decode prog_14_method_1_code 503 = .ok (.bipush 83, 2) := by decide +kernel
theorem d_Md_init_505 : decode prog_14_method_1_code 505 = .ok (.bipush 26, 2) := by decide +kernel
theorem d_Md_init_507 : decode prog_14_method_1_code 507 = .ok (.iastore, 1) := by decide +kernel
theorem d_Md_init_508 : decode prog_14_method_1_code 508 = .ok (.dup, 1) := by decide +kernel
theorem d_Md_init_509 : decode prog_14_method_1_code 509 = .ok (.bipush 84, 2) := by decide +kernel
theorem d_Md_init_511 : decode prog_14_method_1_code 511 = .ok (.bipush 18, 2) := by decide +kernel
theorem d_Md_init_513 : decode prog_14_method_1_code 513 = .ok (.iastore, 1) := by decide +kernel
theorem d_Md_init_514 : decode prog_14_method_1_code 514 = .ok (.dup, 1) := by decide +kernel
theorem d_Md_init_515 : decode prog_14_method_1_code 515 = .ok (.bipush 85, 2) := by decide +kernel
theorem d_Md_init_517 : decode prog_14_method_1_code 517 = .ok (.bipush 24, 2) := by decide +kernel
theorem d_Md_init_519 : decode prog_14_method_1_code 519 = .ok (.iastore, 1) := by decide +kernel
theorem d_Md_init_520 : decode prog_14_method_1_code 520 = .ok (.dup, 1) := by decide +kernel
