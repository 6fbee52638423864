/-! THE CLAIM OUT OF ONE WALK OF THE LAW'S BODY. Your part is whole_start (and what it stands on); all else here is the same for every law, but numbers. -/
def R_law : String := "SquareSymbolsLaw"
def lw_P (b : Addr) (xs : List Int32) (args : Array Value) (s : State) : Prop := args = #[.ref b] ∧ s.IntsAt b xs ∧ xs.length ≤ 2560 ∧ (Jvm.Cond.and given_1 narrow_1).before args s = true
def lw_Q (_ : Array Value) (s : State) (o : Outcome) (t : State) : Prop := o = .returned (some (.int 1)) ∧ Framed s o t [] 1094 126554
def lw_Z (below : List Frame) (a : Array Value) (s : State) : State → Prop := fun t => ∃ o, t.status = .running ∧ Ended t below o ∧ lw_Q a s o t
/-- the law's own end, with 1 on the stack, nothing written that was there before, its room as the claim has it -/
theorem lw_ret {p : Program} {l : Launch} {e : Env} {s : State} {m : MethodId} {below : List Frame} {meth : Method} {c : Code} {b : Nat} (hx : p.tables.exec = Jvm.exec) (hb : c.code = code) (hr : meth.sig.returnType = ret) (hlocks : meth.locks = false) {pc : Nat} {H : Heap} {ls : Array Slot} (hdg : decode code pc = .ok (.ireturn, 1)) : W p l e room_1 s m #[Value.ref b] below meth c H [] 1094 126554 (lw_Z below #[Value.ref b] s) (F0 m pc ls [.int 1]) := by
  intro T hT X
  obtain ⟨fs, hret, hrun, hended, hW, hframe⟩ := X.leave (v := some (.int 1)) (hlocks := hlocks) (fun h => by rw [hr] at h; cases h)
  have hmeth' : T.vm.method? m = some meth := X.method'
  refine ⟨T.setFrames fs, ?_, .returned (some (.int 1)), hrun, hended, rfl, ⟨_, rfl⟩, hW, hframe⟩
  jvm_step X.here [X.here.top, hx, hb, hdg, hmeth', hr, ret, narrow_b1]
  (try refine ⟨rfl, ?_⟩); (try refine ⟨rfl, ?_⟩)
  first | (intro acts; rw [hret _ acts rfl rfl rfl]) | rw [hret _ _ rfl rfl rfl]
  exact Steps.refl _
/-- what holds at the law's entry: the machine, the code, the tables' words (any of lw_tbl by 'hts w (by decide +kernel)'), the script of L ints xs at the cell b, what the Statement gives of the start (any of its parts by flat_of_before) -/
def lw_At (p : Program) (s : State) (m : MethodId) (meth : Method) (c : Code) (b L : Nat) (xs : Nat → Int32) : Prop :=
  p.tables.exec = Jvm.exec ∧ c.code = code ∧ meth.sig.returnType = ret ∧ c.maxLocals = 7 ∧ s.vm.findClass R_law = some m.cls ∧ (∀ w ∈ lw_tbl, w.before #[Value.ref b] s = true) ∧ va_X b L xs s s.heap ∧ b < s.heap.size ∧ meth.locks = false ∧ (Jvm.Cond.and given_1 narrow_1).before #[Value.ref b] s = true
theorem d_Law_law_0 : decode code 0 = .ok (.new 8, 3) := by decide +kernel
theorem d_Law_law_3 : decode code 3 = .ok (.dup, 1) := by decide +kernel
theorem d_Law_law_4 : decode code 4 = .ok (.invokespecial 36, 3) := by decide +kernel
theorem d_Law_law_7 : decode code 7 = .ok (.astore_n 1, 1) := by decide +kernel
theorem d_Law_law_8 : decode code 8 = .ok (.new 37, 3) := by decide +kernel
theorem d_Law_law_11 : decode code 11 = .ok (.dup, 1) := by decide +kernel
theorem d_Law_law_12 : decode code 12 = .ok (.invokespecial 39, 3) := by decide +kernel
theorem d_Law_law_15 : decode code 15 = .ok (.astore_n 2, 1) := by decide +kernel
theorem d_Law_law_16 : decode code 16 = .ok (.iconst 1, 1) := by decide +kernel
theorem d_Law_law_17 : decode code 17 = .ok (.newarray .long, 2) := by decide +kernel
theorem d_Law_law_19 : decode code 19 = .ok (.astore_n 3, 1) := by decide +kernel
theorem d_Law_law_20 : decode code 20 = .ok (.iconst 0, 1) := by decide +kernel
theorem d_Law_law_21 : decode code 21 = .ok (.istore 4, 2) := by decide +kernel
theorem d_Law_law_23 : decode code 23 = .ok (.iload 4, 2) := by decide +kernel
theorem d_Law_law_25 : decode code 25 = .ok (.aload_n 0, 1) := by decide +kernel
theorem d_Law_law_26 : decode code 26 = .ok (.arraylength, 1) := by decide +kernel
theorem d_Law_law_27 : decode code 27 = .ok (.iconst 5, 1) := by decide +kernel
theorem d_Law_law_28 : decode code 28 = .ok (.isub, 1) := by decide +kernel
theorem d_Law_law_29 : decode code 29 = .ok (.if_icmp .gt 748, 3) := by decide +kernel
theorem d_Law_law_32 : decode code 32 = .ok (.aload_n 0, 1) := by decide +kernel
theorem d_Law_law_33 : decode code 33 = .ok (.iload 4, 2) := by decide +kernel
theorem d_Law_law_35 : decode code 35 = .ok (.iaload, 1) := by decide +kernel
theorem d_Law_law_36 : decode code 36 = .ok (.bipush 15, 2) := by decide +kernel
theorem d_Law_law_38 : decode code 38 = .ok (.iand, 1) := by decide +kernel
theorem d_Law_law_39 : decode code 39 = .ok (.tableswitch 732 0 12 #[65, 165, 233, 246, 271, 351, 407, 463, 531, 569, 650, 663, 676], 65) := by decide +kernel
theorem d_Law_law_104 : decode code 104 = .ok (.aload_n 1, 1) := by decide +kernel
theorem d_Law_law_105 : decode code 105 = .ok (.aload_n 0, 1) := by decide +kernel
theorem d_Law_law_106 : decode code 106 = .ok (.iload 4, 2) := by decide +kernel
theorem d_Law_law_108 : decode code 108 = .ok (.iconst 1, 1) := by decide +kernel
theorem d_Law_law_109 : decode code 109 = .ok (.iadd, 1) := by decide +kernel
theorem d_Law_law_110 : decode code 110 = .ok (.iaload, 1) := by decide +kernel
theorem d_Law_law_111 : decode code 111 = .ok (.aload_n 0, 1) := by decide +kernel
theorem d_Law_law_112 : decode code 112 = .ok (.iload 4, 2) := by decide +kernel
theorem d_Law_law_114 : decode code 114 = .ok (.iconst 2, 1) := by decide +kernel
theorem d_Law_law_115 : decode code 115 = .ok (.iadd, 1) := by decide +kernel
theorem d_Law_law_116 : decode code 116 = .ok (.iaload, 1) := by decide +kernel
theorem d_Law_law_117 : decode code 117 = .ok (.i2l, 1) := by decide +kernel
theorem d_Law_law_118 : decode code 118 = .ok (.bipush 32, 2) := by decide +kernel
theorem d_Law_law_120 : decode code 120 = .ok (.lshl, 1) := by decide +kernel
theorem d_Law_law_121 : decode code 121 = .ok (.aload_n 0, 1) := by decide +kernel
theorem d_Law_law_122 : decode code 122 = .ok (.iload 4, 2) := by decide +kernel
theorem d_Law_law_124 : decode code 124 = .ok (.iconst 3, 1) := by decide +kernel
theorem d_Law_law_125 : decode code 125 = .ok (.iadd, 1) := by decide +kernel
theorem d_Law_law_126 : decode code 126 = .ok (.iaload, 1) := by decide +kernel
theorem d_Law_law_127 : decode code 127 = .ok (.i2l, 1) := by decide +kernel
theorem d_Law_law_128 : decode code 128 = .ok (.ldc2_w 40, 3) := by decide +kernel
theorem d_Law_law_131 : decode code 131 = .ok (.land, 1) := by decide +kernel
theorem d_Law_law_132 : decode code 132 = .ok (.lor, 1) := by decide +kernel
theorem d_Law_law_133 : decode code 133 = .ok (.aload_n 3, 1) := by decide +kernel
theorem d_Law_law_134 : decode code 134 = .ok (.invokestatic 42, 3) := by decide +kernel
theorem d_Law_law_137 : decode code 137 = .ok (.istore 5, 2) := by decide +kernel
theorem d_Law_law_139 : decode code 139 = .ok (.aload_n 2, 1) := by decide +kernel
theorem d_Law_law_140 : decode code 140 = .ok (.aload_n 0, 1) := by decide +kernel
theorem d_Law_law_141 : decode code 141 = .ok (.iload 4, 2) := by decide +kernel
theorem d_Law_law_143 : decode code 143 = .ok (.iconst 1, 1) := by decide +kernel
theorem d_Law_law_144 : decode code 144 = .ok (.iadd, 1) := by decide +kernel
theorem d_Law_law_145 : decode code 145 = .ok (.iaload, 1) := by decide +kernel
theorem d_Law_law_146 : decode code 146 = .ok (.aload_n 0, 1) := by decide +kernel
theorem d_Law_law_147 : decode code 147 = .ok (.iload 4, 2) := by decide +kernel
theorem d_Law_law_149 : decode code 149 = .ok (.iconst 2, 1) := by decide +kernel
theorem d_Law_law_150 : decode code 150 = .ok (.iadd, 1) := by decide +kernel
theorem d_Law_law_151 : decode code 151 = .ok (.iaload, 1) := by decide +kernel
theorem d_Law_law_152 : decode code 152 = .ok (.i2l, 1) := by decide +kernel
theorem d_Law_law_153 : decode code 153 = .ok (.bipush 32, 2) := by decide +kernel
theorem d_Law_law_155 : decode code 155 = .ok (.lshl, 1) := by decide +kernel
theorem d_Law_law_156 : decode code 156 = .ok (.aload_n 0, 1) := by decide +kernel
theorem d_Law_law_157 : decode code 157 = .ok (.iload 4, 2) := by decide +kernel
theorem d_Law_law_159 : decode code 159 = .ok (.iconst 3, 1) := by decide +kernel
theorem d_Law_law_160 : decode code 160 = .ok (.iadd, 1) := by decide +kernel
theorem d_Law_law_161 : decode code 161 = .ok (.iaload, 1) := by decide +kernel
theorem d_Law_law_162 : decode code 162 = .ok (.i2l, 1) := by decide +kernel
theorem d_Law_law_163 : decode code 163 = .ok (.ldc2_w 40, 3) := by decide +kernel
theorem d_Law_law_166 : decode code 166 = .ok (.land, 1) := by decide +kernel
theorem d_Law_law_167 : decode code 167 = .ok (.lor, 1) := by decide +kernel
theorem d_Law_law_168 : decode code 168 = .ok (.invokevirtual 47, 3) := by decide +kernel
theorem d_Law_law_171 : decode code 171 = .ok (.istore 6, 2) := by decide +kernel
theorem d_Law_law_173 : decode code 173 = .ok (.aload_n 2, 1) := by decide +kernel
theorem d_Law_law_174 : decode code 174 = .ok (.invokevirtual 48, 3) := by decide +kernel
theorem d_Law_law_177 : decode code 177 = .ok (.iload 5, 2) := by decide +kernel
theorem d_Law_law_179 : decode code 179 = .ok (.if_icmp .eq 5, 3) := by decide +kernel
theorem d_Law_law_182 : decode code 182 = .ok (.iconst 0, 1) := by decide +kernel
theorem d_Law_law_183 : decode code 183 = .ok (.ireturn, 1) := by decide +kernel
theorem d_Law_law_184 : decode code 184 = .ok (.iload 5, 2) := by decide +kernel
theorem d_Law_law_186 : decode code 186 = .ok (.ifCond .ne 15, 3) := by decide +kernel
theorem d_Law_law_189 : decode code 189 = .ok (.aload_n 3, 1) := by decide +kernel
theorem d_Law_law_190 : decode code 190 = .ok (.iconst 0, 1) := by decide +kernel
theorem d_Law_law_191 : decode code 191 = .ok (.laload, 1) := by decide +kernel
theorem d_Law_law_192 : decode code 192 = .ok (.iload 6, 2) := by decide +kernel
theorem d_Law_law_194 : decode code 194 = .ok (.i2l, 1) := by decide +kernel
theorem d_Law_law_195 : decode code 195 = .ok (.lcmp, 1) := by decide +kernel
theorem d_Law_law_196 : decode code 196 = .ok (.ifCond .eq 5, 3) := by decide +kernel
theorem d_Law_law_199 : decode code 199 = .ok (.iconst 0, 1) := by decide +kernel
theorem d_Law_law_200 : decode code 200 = .ok (.ireturn, 1) := by decide +kernel
theorem d_Law_law_201 : decode code 201 = .ok (.goto 570, 3) := by decide +kernel
theorem d_Law_law_204 : decode code 204 = .ok (.aload_n 1, 1) := by decide +kernel
theorem d_Law_law_205 : decode code 205 = .ok (.aload_n 0, 1) := by decide +kernel
theorem d_Law_law_206 : decode code 206 = .ok (.iload 4, 2) := by decide +kernel
theorem d_Law_law_208 : decode code 208 = .ok (.iconst 1, 1) := by decide +kernel
theorem d_Law_law_209 : decode code 209 = .ok (.iadd, 1) := by decide +kernel
theorem d_Law_law_210 : decode code 210 = .ok (.iaload, 1) := by decide +kernel
theorem d_Law_law_211 : decode code 211 = .ok (.aload_n 0, 1) := by decide +kernel
theorem d_Law_law_212 : decode code 212 = .ok (.iload 4, 2) := by decide +kernel
theorem d_Law_law_214 : decode code 214 = .ok (.iconst 2, 1) := by decide +kernel
theorem d_Law_law_215 : decode code 215 = .ok (.iadd, 1) := by decide +kernel
theorem d_Law_law_216 : decode code 216 = .ok (.iaload, 1) := by decide +kernel
theorem d_Law_law_217 : decode code 217 = .ok (.aload_n 3, 1) := by decide +kernel
theorem d_Law_law_218 : decode code 218 = .ok (.invokestatic 52, 3) := by decide +kernel
theorem d_Law_law_221 : decode code 221 = .ok (.istore 5, 2) := by decide +kernel
theorem d_Law_law_223 : decode code 223 = .ok (.aload_n 2, 1) := by decide +kernel
theorem d_Law_law_224 : decode code 224 = .ok (.aload_n 0, 1) := by decide +kernel
theorem d_Law_law_225 : decode code 225 = .ok (.iload 4, 2) := by decide +kernel
theorem d_Law_law_227 : decode code 227 = .ok (.iconst 1, 1) := by decide +kernel
theorem d_Law_law_228 : decode code 228 = .ok (.iadd, 1) := by decide +kernel
theorem d_Law_law_229 : decode code 229 = .ok (.iaload, 1) := by decide +kernel
theorem d_Law_law_230 : decode code 230 = .ok (.aload_n 0, 1) := by decide +kernel
theorem d_Law_law_231 : decode code 231 = .ok (.iload 4, 2) := by decide +kernel
theorem d_Law_law_233 : decode code 233 = .ok (.iconst 2, 1) := by decide +kernel
theorem d_Law_law_234 : decode code 234 = .ok (.iadd, 1) := by decide +kernel
theorem d_Law_law_235 : decode code 235 = .ok (.iaload, 1) := by decide +kernel
theorem d_Law_law_236 : decode code 236 = .ok (.invokevirtual 55, 3) := by decide +kernel
theorem d_Law_law_239 : decode code 239 = .ok (.istore 6, 2) := by decide +kernel
theorem d_Law_law_241 : decode code 241 = .ok (.aload_n 2, 1) := by decide +kernel
theorem d_Law_law_242 : decode code 242 = .ok (.invokevirtual 48, 3) := by decide +kernel
theorem d_Law_law_245 : decode code 245 = .ok (.iload 5, 2) := by decide +kernel
theorem d_Law_law_247 : decode code 247 = .ok (.if_icmp .eq 5, 3) := by decide +kernel
theorem d_Law_law_250 : decode code 250 = .ok (.iconst 0, 1) := by decide +kernel
theorem d_Law_law_251 : decode code 251 = .ok (.ireturn, 1) := by decide +kernel
theorem d_Law_law_252 : decode code 252 = .ok (.iload 5, 2) := by decide +kernel
theorem d_Law_law_254 : decode code 254 = .ok (.ifCond .ne 15, 3) := by decide +kernel
theorem d_Law_law_257 : decode code 257 = .ok (.aload_n 3, 1) := by decide +kernel
theorem d_Law_law_258 : decode code 258 = .ok (.iconst 0, 1) := by decide +kernel
theorem d_Law_law_259 : decode code 259 = .ok (.laload, 1) := by decide +kernel
theorem d_Law_law_260 : decode code 260 = .ok (.iload 6, 2) := by decide +kernel
theorem d_Law_law_262 : decode code 262 = .ok (.i2l, 1) := by decide +kernel
theorem d_Law_law_263 : decode code 263 = .ok (.lcmp, 1) := by decide +kernel
theorem d_Law_law_264 : decode code 264 = .ok (.ifCond .eq 5, 3) := by decide +kernel
theorem d_Law_law_267 : decode code 267 = .ok (.iconst 0, 1) := by decide +kernel
theorem d_Law_law_268 : decode code 268 = .ok (.ireturn, 1) := by decide +kernel
theorem d_Law_law_269 : decode code 269 = .ok (.goto 502, 3) := by decide +kernel
theorem d_Law_law_272 : decode code 272 = .ok (.aload_n 1, 1) := by decide +kernel
theorem d_Law_law_273 : decode code 273 = .ok (.invokevirtual 56, 3) := by decide +kernel
theorem d_Law_law_276 : decode code 276 = .ok (.aload_n 2, 1) := by decide +kernel
theorem d_Law_law_277 : decode code 277 = .ok (.invokevirtual 59, 3) := by decide +kernel
theorem d_Law_law_280 : decode code 280 = .ok (.if_icmp .eq 491, 3) := by decide +kernel
theorem d_Law_law_283 : decode code 283 = .ok (.iconst 0, 1) := by decide +kernel
theorem d_Law_law_284 : decode code 284 = .ok (.ireturn, 1) := by decide +kernel
theorem d_Law_law_285 : decode code 285 = .ok (.aload_n 1, 1) := by decide +kernel
theorem d_Law_law_286 : decode code 286 = .ok (.aload_n 0, 1) := by decide +kernel
theorem d_Law_law_287 : decode code 287 = .ok (.iload 4, 2) := by decide +kernel
theorem d_Law_law_289 : decode code 289 = .ok (.iconst 1, 1) := by decide +kernel
theorem d_Law_law_290 : decode code 290 = .ok (.iadd, 1) := by decide +kernel
theorem d_Law_law_291 : decode code 291 = .ok (.iaload, 1) := by decide +kernel
theorem d_Law_law_292 : decode code 292 = .ok (.invokevirtual 60, 3) := by decide +kernel
theorem d_Law_law_295 : decode code 295 = .ok (.aload_n 2, 1) := by decide +kernel
theorem d_Law_law_296 : decode code 296 = .ok (.aload_n 0, 1) := by decide +kernel
theorem d_Law_law_297 : decode code 297 = .ok (.iload 4, 2) := by decide +kernel
theorem d_Law_law_299 : decode code 299 = .ok (.iconst 1, 1) := by decide +kernel
theorem d_Law_law_300 : decode code 300 = .ok (.iadd, 1) := by decide +kernel
theorem d_Law_law_301 : decode code 301 = .ok (.iaload, 1) := by decide +kernel
theorem d_Law_law_302 : decode code 302 = .ok (.invokevirtual 63, 3) := by decide +kernel
theorem d_Law_law_305 : decode code 305 = .ok (.if_icmp .eq 466, 3) := by decide +kernel
theorem d_Law_law_308 : decode code 308 = .ok (.iconst 0, 1) := by decide +kernel
theorem d_Law_law_309 : decode code 309 = .ok (.ireturn, 1) := by decide +kernel
theorem d_Law_law_310 : decode code 310 = .ok (.aload_n 1, 1) := by decide +kernel
theorem d_Law_law_311 : decode code 311 = .ok (.aload_n 0, 1) := by decide +kernel
theorem d_Law_law_312 : decode code 312 = .ok (.iload 4, 2) := by decide +kernel
theorem d_Law_law_314 : decode code 314 = .ok (.iconst 1, 1) := by decide +kernel
theorem d_Law_law_315 : decode code 315 = .ok (.iadd, 1) := by decide +kernel
theorem d_Law_law_316 : decode code 316 = .ok (.iaload, 1) := by decide +kernel
theorem d_Law_law_317 : decode code 317 = .ok (.aload_n 0, 1) := by decide +kernel
theorem d_Law_law_318 : decode code 318 = .ok (.iload 4, 2) := by decide +kernel
theorem d_Law_law_320 : decode code 320 = .ok (.iconst 2, 1) := by decide +kernel
theorem d_Law_law_321 : decode code 321 = .ok (.iadd, 1) := by decide +kernel
theorem d_Law_law_322 : decode code 322 = .ok (.iaload, 1) := by decide +kernel
theorem d_Law_law_323 : decode code 323 = .ok (.aload_n 0, 1) := by decide +kernel
theorem d_Law_law_324 : decode code 324 = .ok (.iload 4, 2) := by decide +kernel
theorem d_Law_law_326 : decode code 326 = .ok (.iconst 3, 1) := by decide +kernel
theorem d_Law_law_327 : decode code 327 = .ok (.iadd, 1) := by decide +kernel
theorem d_Law_law_328 : decode code 328 = .ok (.iaload, 1) := by decide +kernel
theorem d_Law_law_329 : decode code 329 = .ok (.aload_n 3, 1) := by decide +kernel
theorem d_Law_law_330 : decode code 330 = .ok (.invokestatic 64, 3) := by decide +kernel
theorem d_Law_law_333 : decode code 333 = .ok (.istore 5, 2) := by decide +kernel
theorem d_Law_law_335 : decode code 335 = .ok (.aload_n 2, 1) := by decide +kernel
theorem d_Law_law_336 : decode code 336 = .ok (.aload_n 0, 1) := by decide +kernel
theorem d_Law_law_337 : decode code 337 = .ok (.iload 4, 2) := by decide +kernel
theorem d_Law_law_339 : decode code 339 = .ok (.iconst 1, 1) := by decide +kernel
theorem d_Law_law_340 : decode code 340 = .ok (.iadd, 1) := by decide +kernel
theorem d_Law_law_341 : decode code 341 = .ok (.iaload, 1) := by decide +kernel
theorem d_Law_law_342 : decode code 342 = .ok (.aload_n 0, 1) := by decide +kernel
theorem d_Law_law_343 : decode code 343 = .ok (.iload 4, 2) := by decide +kernel
theorem d_Law_law_345 : decode code 345 = .ok (.iconst 2, 1) := by decide +kernel
theorem d_Law_law_346 : decode code 346 = .ok (.iadd, 1) := by decide +kernel
theorem d_Law_law_347 : decode code 347 = .ok (.iaload, 1) := by decide +kernel
theorem d_Law_law_348 : decode code 348 = .ok (.aload_n 0, 1) := by decide +kernel
theorem d_Law_law_349 : decode code 349 = .ok (.iload 4, 2) := by decide +kernel
theorem d_Law_law_351 : decode code 351 = .ok (.iconst 3, 1) := by decide +kernel
theorem d_Law_law_352 : decode code 352 = .ok (.iadd, 1) := by decide +kernel
theorem d_Law_law_353 : decode code 353 = .ok (.iaload, 1) := by decide +kernel
theorem d_Law_law_354 : decode code 354 = .ok (.invokevirtual 67, 3) := by decide +kernel
theorem d_Law_law_357 : decode code 357 = .ok (.istore 6, 2) := by decide +kernel
theorem d_Law_law_359 : decode code 359 = .ok (.aload_n 2, 1) := by decide +kernel
theorem d_Law_law_360 : decode code 360 = .ok (.invokevirtual 48, 3) := by decide +kernel
theorem d_Law_law_363 : decode code 363 = .ok (.iload 5, 2) := by decide +kernel
theorem d_Law_law_365 : decode code 365 = .ok (.if_icmp .eq 5, 3) := by decide +kernel
theorem d_Law_law_368 : decode code 368 = .ok (.iconst 0, 1) := by decide +kernel
theorem d_Law_law_369 : decode code 369 = .ok (.ireturn, 1) := by decide +kernel
theorem d_Law_law_370 : decode code 370 = .ok (.iload 5, 2) := by decide +kernel
theorem d_Law_law_372 : decode code 372 = .ok (.ifCond .ne 15, 3) := by decide +kernel
theorem d_Law_law_375 : decode code 375 = .ok (.aload_n 3, 1) := by decide +kernel
theorem d_Law_law_376 : decode code 376 = .ok (.iconst 0, 1) := by decide +kernel
theorem d_Law_law_377 : decode code 377 = .ok (.laload, 1) := by decide +kernel
theorem d_Law_law_378 : decode code 378 = .ok (.iload 6, 2) := by decide +kernel
theorem d_Law_law_380 : decode code 380 = .ok (.i2l, 1) := by decide +kernel
theorem d_Law_law_381 : decode code 381 = .ok (.lcmp, 1) := by decide +kernel
theorem d_Law_law_382 : decode code 382 = .ok (.ifCond .eq 5, 3) := by decide +kernel
theorem d_Law_law_385 : decode code 385 = .ok (.iconst 0, 1) := by decide +kernel
theorem d_Law_law_386 : decode code 386 = .ok (.ireturn, 1) := by decide +kernel
theorem d_Law_law_387 : decode code 387 = .ok (.goto 384, 3) := by decide +kernel
theorem d_Law_law_390 : decode code 390 = .ok (.aload_n 1, 1) := by decide +kernel
theorem d_Law_law_391 : decode code 391 = .ok (.aload_n 0, 1) := by decide +kernel
theorem d_Law_law_392 : decode code 392 = .ok (.iload 4, 2) := by decide +kernel
theorem d_Law_law_394 : decode code 394 = .ok (.iconst 1, 1) := by decide +kernel
theorem d_Law_law_395 : decode code 395 = .ok (.iadd, 1) := by decide +kernel
theorem d_Law_law_396 : decode code 396 = .ok (.iaload, 1) := by decide +kernel
theorem d_Law_law_397 : decode code 397 = .ok (.aload_n 3, 1) := by decide +kernel
theorem d_Law_law_398 : decode code 398 = .ok (.invokestatic 68, 3) := by decide +kernel
theorem d_Law_law_401 : decode code 401 = .ok (.istore 5, 2) := by decide +kernel
theorem d_Law_law_403 : decode code 403 = .ok (.aload_n 2, 1) := by decide +kernel
theorem d_Law_law_404 : decode code 404 = .ok (.aload_n 0, 1) := by decide +kernel
theorem d_Law_law_405 : decode code 405 = .ok (.iload 4, 2) := by decide +kernel
theorem d_Law_law_407 : decode code 407 = .ok (.iconst 1, 1) := by decide +kernel
theorem d_Law_law_408 : decode code 408 = .ok (.iadd, 1) := by decide +kernel
theorem d_Law_law_409 : decode code 409 = .ok (.iaload, 1) := by decide +kernel
theorem d_Law_law_410 : decode code 410 = .ok (.invokevirtual 71, 3) := by decide +kernel
theorem d_Law_law_413 : decode code 413 = .ok (.istore 6, 2) := by decide +kernel
theorem d_Law_law_415 : decode code 415 = .ok (.aload_n 2, 1) := by decide +kernel
theorem d_Law_law_416 : decode code 416 = .ok (.invokevirtual 48, 3) := by decide +kernel
theorem d_Law_law_419 : decode code 419 = .ok (.iload 5, 2) := by decide +kernel
theorem d_Law_law_421 : decode code 421 = .ok (.if_icmp .eq 5, 3) := by decide +kernel
theorem d_Law_law_424 : decode code 424 = .ok (.iconst 0, 1) := by decide +kernel
theorem d_Law_law_425 : decode code 425 = .ok (.ireturn, 1) := by decide +kernel
theorem d_Law_law_426 : decode code 426 = .ok (.iload 5, 2) := by decide +kernel
theorem d_Law_law_428 : decode code 428 = .ok (.ifCond .ne 15, 3) := by decide +kernel
theorem d_Law_law_431 : decode code 431 = .ok (.aload_n 3, 1) := by decide +kernel
theorem d_Law_law_432 : decode code 432 = .ok (.iconst 0, 1) := by decide +kernel
theorem d_Law_law_433 : decode code 433 = .ok (.laload, 1) := by decide +kernel
theorem d_Law_law_434 : decode code 434 = .ok (.iload 6, 2) := by decide +kernel
theorem d_Law_law_436 : decode code 436 = .ok (.i2l, 1) := by decide +kernel
theorem d_Law_law_437 : decode code 437 = .ok (.lcmp, 1) := by decide +kernel
theorem d_Law_law_438 : decode code 438 = .ok (.ifCond .eq 5, 3) := by decide +kernel
theorem d_Law_law_441 : decode code 441 = .ok (.iconst 0, 1) := by decide +kernel
theorem d_Law_law_442 : decode code 442 = .ok (.ireturn, 1) := by decide +kernel
theorem d_Law_law_443 : decode code 443 = .ok (.goto 328, 3) := by decide +kernel
theorem d_Law_law_446 : decode code 446 = .ok (.aload_n 1, 1) := by decide +kernel
theorem d_Law_law_447 : decode code 447 = .ok (.aload_n 0, 1) := by decide +kernel
theorem d_Law_law_448 : decode code 448 = .ok (.iload 4, 2) := by decide +kernel
theorem d_Law_law_450 : decode code 450 = .ok (.iconst 1, 1) := by decide +kernel
theorem d_Law_law_451 : decode code 451 = .ok (.iadd, 1) := by decide +kernel
theorem d_Law_law_452 : decode code 452 = .ok (.iaload, 1) := by decide +kernel
theorem d_Law_law_453 : decode code 453 = .ok (.aload_n 3, 1) := by decide +kernel
theorem d_Law_law_454 : decode code 454 = .ok (.invokestatic 72, 3) := by decide +kernel
theorem d_Law_law_457 : decode code 457 = .ok (.istore 5, 2) := by decide +kernel
theorem d_Law_law_459 : decode code 459 = .ok (.aload_n 2, 1) := by decide +kernel
theorem d_Law_law_460 : decode code 460 = .ok (.aload_n 0, 1) := by decide +kernel
theorem d_Law_law_461 : decode code 461 = .ok (.iload 4, 2) := by decide +kernel
theorem d_Law_law_463 : decode code 463 = .ok (.iconst 1, 1) := by decide +kernel
theorem d_Law_law_464 : decode code 464 = .ok (.iadd, 1) := by decide +kernel
theorem d_Law_law_465 : decode code 465 = .ok (.iaload, 1) := by decide +kernel
theorem d_Law_law_466 : decode code 466 = .ok (.invokevirtual 74, 3) := by decide +kernel
theorem d_Law_law_469 : decode code 469 = .ok (.istore 6, 2) := by decide +kernel
theorem d_Law_law_471 : decode code 471 = .ok (.aload_n 2, 1) := by decide +kernel
theorem d_Law_law_472 : decode code 472 = .ok (.invokevirtual 48, 3) := by decide +kernel
theorem d_Law_law_475 : decode code 475 = .ok (.iload 5, 2) := by decide +kernel
theorem d_Law_law_477 : decode code 477 = .ok (.if_icmp .eq 5, 3) := by decide +kernel
theorem d_Law_law_480 : decode code 480 = .ok (.iconst 0, 1) := by decide +kernel
theorem d_Law_law_481 : decode code 481 = .ok (.ireturn, 1) := by decide +kernel
theorem d_Law_law_482 : decode code 482 = .ok (.iload 5, 2) := by decide +kernel
theorem d_Law_law_484 : decode code 484 = .ok (.ifCond .ne 15, 3) := by decide +kernel
theorem d_Law_law_487 : decode code 487 = .ok (.aload_n 3, 1) := by decide +kernel
theorem d_Law_law_488 : decode code 488 = .ok (.iconst 0, 1) := by decide +kernel
theorem d_Law_law_489 : decode code 489 = .ok (.laload, 1) := by decide +kernel
theorem d_Law_law_490 : decode code 490 = .ok (.iload 6, 2) := by decide +kernel
theorem d_Law_law_492 : decode code 492 = .ok (.i2l, 1) := by decide +kernel
theorem d_Law_law_493 : decode code 493 = .ok (.lcmp, 1) := by decide +kernel
theorem d_Law_law_494 : decode code 494 = .ok (.ifCond .eq 5, 3) := by decide +kernel
theorem d_Law_law_497 : decode code 497 = .ok (.iconst 0, 1) := by decide +kernel
theorem d_Law_law_498 : decode code 498 = .ok (.ireturn, 1) := by decide +kernel
theorem d_Law_law_499 : decode code 499 = .ok (.goto 272, 3) := by decide +kernel
theorem d_Law_law_502 : decode code 502 = .ok (.aload_n 1, 1) := by decide +kernel
theorem d_Law_law_503 : decode code 503 = .ok (.aload_n 0, 1) := by decide +kernel
theorem d_Law_law_504 : decode code 504 = .ok (.iload 4, 2) := by decide +kernel
theorem d_Law_law_506 : decode code 506 = .ok (.iconst 1, 1) := by decide +kernel
theorem d_Law_law_507 : decode code 507 = .ok (.iadd, 1) := by decide +kernel
theorem d_Law_law_508 : decode code 508 = .ok (.iaload, 1) := by decide +kernel
theorem d_Law_law_509 : decode code 509 = .ok (.aload_n 0, 1) := by decide +kernel
theorem d_Law_law_510 : decode code 510 = .ok (.iload 4, 2) := by decide +kernel
theorem d_Law_law_512 : decode code 512 = .ok (.iconst 2, 1) := by decide +kernel
theorem d_Law_law_513 : decode code 513 = .ok (.iadd, 1) := by decide +kernel
theorem d_Law_law_514 : decode code 514 = .ok (.iaload, 1) := by decide +kernel
theorem d_Law_law_515 : decode code 515 = .ok (.aload_n 3, 1) := by decide +kernel
theorem d_Law_law_516 : decode code 516 = .ok (.invokestatic 75, 3) := by decide +kernel
theorem d_Law_law_519 : decode code 519 = .ok (.istore 5, 2) := by decide +kernel
theorem d_Law_law_521 : decode code 521 = .ok (.aload_n 2, 1) := by decide +kernel
theorem d_Law_law_522 : decode code 522 = .ok (.aload_n 0, 1) := by decide +kernel
theorem d_Law_law_523 : decode code 523 = .ok (.iload 4, 2) := by decide +kernel
theorem d_Law_law_525 : decode code 525 = .ok (.iconst 1, 1) := by decide +kernel
theorem d_Law_law_526 : decode code 526 = .ok (.iadd, 1) := by decide +kernel
theorem d_Law_law_527 : decode code 527 = .ok (.iaload, 1) := by decide +kernel
theorem d_Law_law_528 : decode code 528 = .ok (.aload_n 0, 1) := by decide +kernel
theorem d_Law_law_529 : decode code 529 = .ok (.iload 4, 2) := by decide +kernel
theorem d_Law_law_531 : decode code 531 = .ok (.iconst 2, 1) := by decide +kernel
theorem d_Law_law_532 : decode code 532 = .ok (.iadd, 1) := by decide +kernel
theorem d_Law_law_533 : decode code 533 = .ok (.iaload, 1) := by decide +kernel
theorem d_Law_law_534 : decode code 534 = .ok (.invokevirtual 77, 3) := by decide +kernel
theorem d_Law_law_537 : decode code 537 = .ok (.istore 6, 2) := by decide +kernel
theorem d_Law_law_539 : decode code 539 = .ok (.aload_n 2, 1) := by decide +kernel
theorem d_Law_law_540 : decode code 540 = .ok (.invokevirtual 48, 3) := by decide +kernel
theorem d_Law_law_543 : decode code 543 = .ok (.iload 5, 2) := by decide +kernel
theorem d_Law_law_545 : decode code 545 = .ok (.if_icmp .eq 5, 3) := by decide +kernel
theorem d_Law_law_548 : decode code 548 = .ok (.iconst 0, 1) := by decide +kernel
theorem d_Law_law_549 : decode code 549 = .ok (.ireturn, 1) := by decide +kernel
theorem d_Law_law_550 : decode code 550 = .ok (.iload 5, 2) := by decide +kernel
theorem d_Law_law_552 : decode code 552 = .ok (.ifCond .ne 15, 3) := by decide +kernel
theorem d_Law_law_555 : decode code 555 = .ok (.aload_n 3, 1) := by decide +kernel
theorem d_Law_law_556 : decode code 556 = .ok (.iconst 0, 1) := by decide +kernel
theorem d_Law_law_557 : decode code 557 = .ok (.laload, 1) := by decide +kernel
theorem d_Law_law_558 : decode code 558 = .ok (.iload 6, 2) := by decide +kernel
theorem d_Law_law_560 : decode code 560 = .ok (.i2l, 1) := by decide +kernel
theorem d_Law_law_561 : decode code 561 = .ok (.lcmp, 1) := by decide +kernel
theorem d_Law_law_562 : decode code 562 = .ok (.ifCond .eq 5, 3) := by decide +kernel
theorem d_Law_law_565 : decode code 565 = .ok (.iconst 0, 1) := by decide +kernel
theorem d_Law_law_566 : decode code 566 = .ok (.ireturn, 1) := by decide +kernel
theorem d_Law_law_567 : decode code 567 = .ok (.goto 204, 3) := by decide +kernel
theorem d_Law_law_570 : decode code 570 = .ok (.aload_n 1, 1) := by decide +kernel
theorem d_Law_law_571 : decode code 571 = .ok (.aload_n 0, 1) := by decide +kernel
theorem d_Law_law_572 : decode code 572 = .ok (.iload 4, 2) := by decide +kernel
theorem d_Law_law_574 : decode code 574 = .ok (.iconst 1, 1) := by decide +kernel
theorem d_Law_law_575 : decode code 575 = .ok (.iadd, 1) := by decide +kernel
theorem d_Law_law_576 : decode code 576 = .ok (.iaload, 1) := by decide +kernel
theorem d_Law_law_577 : decode code 577 = .ok (.aload_n 0, 1) := by decide +kernel
theorem d_Law_law_578 : decode code 578 = .ok (.iload 4, 2) := by decide +kernel
theorem d_Law_law_580 : decode code 580 = .ok (.iconst 2, 1) := by decide +kernel
theorem d_Law_law_581 : decode code 581 = .ok (.iadd, 1) := by decide +kernel
theorem d_Law_law_582 : decode code 582 = .ok (.iaload, 1) := by decide +kernel
theorem d_Law_law_583 : decode code 583 = .ok (.invokevirtual 78, 3) := by decide +kernel
theorem d_Law_law_586 : decode code 586 = .ok (.aload_n 2, 1) := by decide +kernel
theorem d_Law_law_587 : decode code 587 = .ok (.aload_n 0, 1) := by decide +kernel
theorem d_Law_law_588 : decode code 588 = .ok (.iload 4, 2) := by decide +kernel
theorem d_Law_law_590 : decode code 590 = .ok (.iconst 1, 1) := by decide +kernel
theorem d_Law_law_591 : decode code 591 = .ok (.iadd, 1) := by decide +kernel
theorem d_Law_law_592 : decode code 592 = .ok (.iaload, 1) := by decide +kernel
theorem d_Law_law_593 : decode code 593 = .ok (.aload_n 0, 1) := by decide +kernel
theorem d_Law_law_594 : decode code 594 = .ok (.iload 4, 2) := by decide +kernel
theorem d_Law_law_596 : decode code 596 = .ok (.iconst 2, 1) := by decide +kernel
theorem d_Law_law_597 : decode code 597 = .ok (.iadd, 1) := by decide +kernel
theorem d_Law_law_598 : decode code 598 = .ok (.iaload, 1) := by decide +kernel
theorem d_Law_law_599 : decode code 599 = .ok (.invokevirtual 82, 3) := by decide +kernel
theorem d_Law_law_602 : decode code 602 = .ok (.lcmp, 1) := by decide +kernel
theorem d_Law_law_603 : decode code 603 = .ok (.ifCond .eq 168, 3) := by decide +kernel
theorem d_Law_law_606 : decode code 606 = .ok (.iconst 0, 1) := by decide +kernel
theorem d_Law_law_607 : decode code 607 = .ok (.ireturn, 1) := by decide +kernel
theorem d_Law_law_608 : decode code 608 = .ok (.aload_n 1, 1) := by decide +kernel
theorem d_Law_law_609 : decode code 609 = .ok (.aload_n 0, 1) := by decide +kernel
theorem d_Law_law_610 : decode code 610 = .ok (.iload 4, 2) := by decide +kernel
theorem d_Law_law_612 : decode code 612 = .ok (.iconst 1, 1) := by decide +kernel
theorem d_Law_law_613 : decode code 613 = .ok (.iadd, 1) := by decide +kernel
theorem d_Law_law_614 : decode code 614 = .ok (.iaload, 1) := by decide +kernel
theorem d_Law_law_615 : decode code 615 = .ok (.aload_n 0, 1) := by decide +kernel
theorem d_Law_law_616 : decode code 616 = .ok (.iload 4, 2) := by decide +kernel
theorem d_Law_law_618 : decode code 618 = .ok (.iconst 2, 1) := by decide +kernel
theorem d_Law_law_619 : decode code 619 = .ok (.iadd, 1) := by decide +kernel
theorem d_Law_law_620 : decode code 620 = .ok (.iaload, 1) := by decide +kernel
theorem d_Law_law_621 : decode code 621 = .ok (.aload_n 0, 1) := by decide +kernel
theorem d_Law_law_622 : decode code 622 = .ok (.iload 4, 2) := by decide +kernel
theorem d_Law_law_624 : decode code 624 = .ok (.iconst 3, 1) := by decide +kernel
theorem d_Law_law_625 : decode code 625 = .ok (.iadd, 1) := by decide +kernel
theorem d_Law_law_626 : decode code 626 = .ok (.iaload, 1) := by decide +kernel
theorem d_Law_law_627 : decode code 627 = .ok (.i2l, 1) := by decide +kernel
theorem d_Law_law_628 : decode code 628 = .ok (.bipush 32, 2) := by decide +kernel
theorem d_Law_law_630 : decode code 630 = .ok (.lshl, 1) := by decide +kernel
theorem d_Law_law_631 : decode code 631 = .ok (.aload_n 0, 1) := by decide +kernel
theorem d_Law_law_632 : decode code 632 = .ok (.iload 4, 2) := by decide +kernel
theorem d_Law_law_634 : decode code 634 = .ok (.iconst 4, 1) := by decide +kernel
theorem d_Law_law_635 : decode code 635 = .ok (.iadd, 1) := by decide +kernel
theorem d_Law_law_636 : decode code 636 = .ok (.iaload, 1) := by decide +kernel
theorem d_Law_law_637 : decode code 637 = .ok (.i2l, 1) := by decide +kernel
theorem d_Law_law_638 : decode code 638 = .ok (.ldc2_w 40, 3) := by decide +kernel
theorem d_Law_law_641 : decode code 641 = .ok (.land, 1) := by decide +kernel
theorem d_Law_law_642 : decode code 642 = .ok (.lor, 1) := by decide +kernel
theorem d_Law_law_643 : decode code 643 = .ok (.invokevirtual 83, 3) := by decide +kernel
theorem d_Law_law_646 : decode code 646 = .ok (.aload_n 2, 1) := by decide +kernel
theorem d_Law_law_647 : decode code 647 = .ok (.aload_n 0, 1) := by decide +kernel
theorem d_Law_law_648 : decode code 648 = .ok (.iload 4, 2) := by decide +kernel
theorem d_Law_law_650 : decode code 650 = .ok (.iconst 1, 1) := by decide +kernel
theorem d_Law_law_651 : decode code 651 = .ok (.iadd, 1) := by decide +kernel
theorem d_Law_law_652 : decode code 652 = .ok (.iaload, 1) := by decide +kernel
theorem d_Law_law_653 : decode code 653 = .ok (.aload_n 0, 1) := by decide +kernel
theorem d_Law_law_654 : decode code 654 = .ok (.iload 4, 2) := by decide +kernel
theorem d_Law_law_656 : decode code 656 = .ok (.iconst 2, 1) := by decide +kernel
theorem d_Law_law_657 : decode code 657 = .ok (.iadd, 1) := by decide +kernel
theorem d_Law_law_658 : decode code 658 = .ok (.iaload, 1) := by decide +kernel
theorem d_Law_law_659 : decode code 659 = .ok (.aload_n 0, 1) := by decide +kernel
theorem d_Law_law_660 : decode code 660 = .ok (.iload 4, 2) := by decide +kernel
theorem d_Law_law_662 : decode code 662 = .ok (.iconst 3, 1) := by decide +kernel
theorem d_Law_law_663 : decode code 663 = .ok (.iadd, 1) := by decide +kernel
theorem d_Law_law_664 : decode code 664 = .ok (.iaload, 1) := by decide +kernel
theorem d_Law_law_665 : decode code 665 = .ok (.i2l, 1) := by decide +kernel
theorem d_Law_law_666 : decode code 666 = .ok (.bipush 32, 2) := by decide +kernel
theorem d_Law_law_668 : decode code 668 = .ok (.lshl, 1) := by decide +kernel
theorem d_Law_law_669 : decode code 669 = .ok (.aload_n 0, 1) := by decide +kernel
theorem d_Law_law_670 : decode code 670 = .ok (.iload 4, 2) := by decide +kernel
theorem d_Law_law_672 : decode code 672 = .ok (.iconst 4, 1) := by decide +kernel
theorem d_Law_law_673 : decode code 673 = .ok (.iadd, 1) := by decide +kernel
theorem d_Law_law_674 : decode code 674 = .ok (.iaload, 1) := by decide +kernel
theorem d_Law_law_675 : decode code 675 = .ok (.i2l, 1) := by decide +kernel
theorem d_Law_law_676 : decode code 676 = .ok (.ldc2_w 40, 3) := by decide +kernel
theorem d_Law_law_679 : decode code 679 = .ok (.land, 1) := by decide +kernel
theorem d_Law_law_680 : decode code 680 = .ok (.lor, 1) := by decide +kernel
theorem d_Law_law_681 : decode code 681 = .ok (.invokevirtual 87, 3) := by decide +kernel
theorem d_Law_law_684 : decode code 684 = .ok (.if_icmp .eq 87, 3) := by decide +kernel
theorem d_Law_law_687 : decode code 687 = .ok (.iconst 0, 1) := by decide +kernel
theorem d_Law_law_688 : decode code 688 = .ok (.ireturn, 1) := by decide +kernel
theorem d_Law_law_689 : decode code 689 = .ok (.aload_n 1, 1) := by decide +kernel
theorem d_Law_law_690 : decode code 690 = .ok (.invokevirtual 88, 3) := by decide +kernel
theorem d_Law_law_693 : decode code 693 = .ok (.aload_n 2, 1) := by decide +kernel
theorem d_Law_law_694 : decode code 694 = .ok (.invokevirtual 91, 3) := by decide +kernel
theorem d_Law_law_697 : decode code 697 = .ok (.if_icmp .eq 74, 3) := by decide +kernel
theorem d_Law_law_700 : decode code 700 = .ok (.iconst 0, 1) := by decide +kernel
theorem d_Law_law_701 : decode code 701 = .ok (.ireturn, 1) := by decide +kernel
theorem d_Law_law_702 : decode code 702 = .ok (.aload_n 1, 1) := by decide +kernel
theorem d_Law_law_703 : decode code 703 = .ok (.invokevirtual 92, 3) := by decide +kernel
theorem d_Law_law_706 : decode code 706 = .ok (.aload_n 2, 1) := by decide +kernel
theorem d_Law_law_707 : decode code 707 = .ok (.invokevirtual 95, 3) := by decide +kernel
theorem d_Law_law_710 : decode code 710 = .ok (.if_icmp .eq 61, 3) := by decide +kernel
theorem d_Law_law_713 : decode code 713 = .ok (.iconst 0, 1) := by decide +kernel
theorem d_Law_law_714 : decode code 714 = .ok (.ireturn, 1) := by decide +kernel
theorem d_Law_law_715 : decode code 715 = .ok (.aload_n 1, 1) := by decide +kernel
theorem d_Law_law_716 : decode code 716 = .ok (.aload_n 0, 1) := by decide +kernel
theorem d_Law_law_717 : decode code 717 = .ok (.iload 4, 2) := by decide +kernel
theorem d_Law_law_719 : decode code 719 = .ok (.iconst 1, 1) := by decide +kernel
theorem d_Law_law_720 : decode code 720 = .ok (.iadd, 1) := by decide +kernel
theorem d_Law_law_721 : decode code 721 = .ok (.iaload, 1) := by decide +kernel
theorem d_Law_law_722 : decode code 722 = .ok (.aload_n 3, 1) := by decide +kernel
theorem d_Law_law_723 : decode code 723 = .ok (.invokestatic 96, 3) := by decide +kernel
theorem d_Law_law_726 : decode code 726 = .ok (.istore 5, 2) := by decide +kernel
theorem d_Law_law_728 : decode code 728 = .ok (.aload_n 2, 1) := by decide +kernel
theorem d_Law_law_729 : decode code 729 = .ok (.aload_n 0, 1) := by decide +kernel
theorem d_Law_law_730 : decode code 730 = .ok (.iload 4, 2) := by decide +kernel
theorem d_Law_law_732 : decode code 732 = .ok (.iconst 1, 1) := by decide +kernel
theorem d_Law_law_733 : decode code 733 = .ok (.iadd, 1) := by decide +kernel
theorem d_Law_law_734 : decode code 734 = .ok (.iaload, 1) := by decide +kernel
theorem d_Law_law_735 : decode code 735 = .ok (.invokevirtual 98, 3) := by decide +kernel
theorem d_Law_law_738 : decode code 738 = .ok (.istore 6, 2) := by decide +kernel
theorem d_Law_law_740 : decode code 740 = .ok (.aload_n 2, 1) := by decide +kernel
theorem d_Law_law_741 : decode code 741 = .ok (.invokevirtual 48, 3) := by decide +kernel
theorem d_Law_law_744 : decode code 744 = .ok (.iload 5, 2) := by decide +kernel
theorem d_Law_law_746 : decode code 746 = .ok (.if_icmp .eq 5, 3) := by decide +kernel
theorem d_Law_law_749 : decode code 749 = .ok (.iconst 0, 1) := by decide +kernel
theorem d_Law_law_750 : decode code 750 = .ok (.ireturn, 1) := by decide +kernel
theorem d_Law_law_751 : decode code 751 = .ok (.iload 5, 2) := by decide +kernel
theorem d_Law_law_753 : decode code 753 = .ok (.ifCond .ne 15, 3) := by decide +kernel
theorem d_Law_law_756 : decode code 756 = .ok (.aload_n 3, 1) := by decide +kernel
theorem d_Law_law_757 : decode code 757 = .ok (.iconst 0, 1) := by decide +kernel
theorem d_Law_law_758 : decode code 758 = .ok (.laload, 1) := by decide +kernel
theorem d_Law_law_759 : decode code 759 = .ok (.iload 6, 2) := by decide +kernel
theorem d_Law_law_761 : decode code 761 = .ok (.i2l, 1) := by decide +kernel
theorem d_Law_law_762 : decode code 762 = .ok (.lcmp, 1) := by decide +kernel
theorem d_Law_law_763 : decode code 763 = .ok (.ifCond .eq 5, 3) := by decide +kernel
theorem d_Law_law_766 : decode code 766 = .ok (.iconst 0, 1) := by decide +kernel
theorem d_Law_law_767 : decode code 767 = .ok (.ireturn, 1) := by decide +kernel
theorem d_Law_law_768 : decode code 768 = .ok (.goto 3, 3) := by decide +kernel
theorem d_Law_law_771 : decode code 771 = .ok (.iinc 4 5, 3) := by decide +kernel
theorem d_Law_law_774 : decode code 774 = .ok (.goto (-751), 3) := by decide +kernel
theorem d_Law_law_777 : decode code 777 = .ok (.iconst 1, 1) := by decide +kernel
theorem d_Law_law_778 : decode code 778 = .ok (.ireturn, 1) := by decide +kernel
