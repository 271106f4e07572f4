/-! The law: the skeleton's head, its bytes. -/
/-! THE CLAIM OUT OF ONE WALK OF THE LAW'S BODY. Your part is whole_start (and what it stands on); all else here is the same for every law, but numbers. -/
def R_law : String := "SwapLoaderLaw"
def lw_P (b : Addr) (xs : List Int32) (args : Array Value) (s : State) : Prop := args = #[.ref b] ∧ s.IntsAt b xs ∧ xs.length ≤ 2048 ∧ (Jvm.Cond.and given_1 narrow_1).before args s = true
def lw_Q (_ : Array Value) (s : State) (o : Outcome) (t : State) : Prop := o = .returned (some (.int 1)) ∧ Framed s o t [] 1033 8710
def lw_Z (below : List Frame) (a : Array Value) (s : State) : State → Prop := fun t => ∃ o, t.status = .running ∧ Ended t below o ∧ lw_Q a s o t
/-- the law's own end, with 1 on the stack, nothing written that was there before, its room as the claim has it -/
theorem lw_ret {p : Program} {l : Launch} {e : Env} {s : State} {m : MethodId} {below : List Frame} {meth : Method} {c : Code} {b : Nat} (hx : p.tables.exec = Jvm.exec) (hb : c.code = code) (hr : meth.sig.returnType = ret) (hlocks : meth.locks = false) {pc : Nat} {H : Heap} {ls : Array Slot} (hdg : decode code pc = .ok (.ireturn, 1)) : W p l e room_1 s m #[Value.ref b] below meth c H [] 1033 8710 (lw_Z below #[Value.ref b] s) (F0 m pc ls [.int 1]) := by
  intro T hT X
  obtain ⟨fs, hret, hrun, hended, hW, hframe⟩ := X.leave (v := some (.int 1)) (hlocks := hlocks) (fun h => by rw [hr] at h; cases h)
  have hmeth' : T.vm.method? m = some meth := X.method'
  refine ⟨T.setFrames fs, ?_, .returned (some (.int 1)), hrun, hended, rfl, ⟨_, rfl⟩, hW, hframe⟩
  jvm_step X.here [X.here.top, hx, hb, hdg, hmeth', hr, ret, narrow_b1]
  (try refine ⟨rfl, ?_⟩); (try refine ⟨rfl, ?_⟩)
  first | (intro acts; rw [hret _ acts rfl rfl rfl]) | rw [hret _ _ rfl rfl rfl]
  exact Steps.refl _
/-- what holds at the law's entry: the machine, the code, the tables' words (any of lw_tbl by 'hts w (by decide +kernel)'), the script of L ints xs at the cell b, what the Statement gives of the start (any of its parts by flat_of_before) -/
def lw_At (p : Program) (s : State) (m : MethodId) (meth : Method) (c : Code) (b L : Nat) (xs : Nat → Int32) : Prop :=
  p.tables.exec = Jvm.exec ∧ c.code = code ∧ meth.sig.returnType = ret ∧ c.maxLocals = 7 ∧ s.vm.findClass R_law = some m.cls ∧ (∀ w ∈ lw_tbl, w.before #[Value.ref b] s = true) ∧ va_X b L xs s s.heap ∧ b < s.heap.size ∧ meth.locks = false ∧ (Jvm.Cond.and given_1 narrow_1).before #[Value.ref b] s = true
theorem dl_0 : decode code 0 = .ok (.new 8, 3) := by decide +kernel
theorem dl_3 : decode code 3 = .ok (.dup, 1) := by decide +kernel
theorem dl_4 : decode code 4 = .ok (.invokespecial 15, 3) := by decide +kernel
theorem dl_7 : decode code 7 = .ok (.astore_n 1, 1) := by decide +kernel
theorem dl_8 : decode code 8 = .ok (.new 16, 3) := by decide +kernel
theorem dl_11 : decode code 11 = .ok (.dup, 1) := by decide +kernel
theorem dl_12 : decode code 12 = .ok (.invokespecial 18, 3) := by decide +kernel
theorem dl_15 : decode code 15 = .ok (.astore_n 2, 1) := by decide +kernel
theorem dl_16 : decode code 16 = .ok (.iconst 1, 1) := by decide +kernel
theorem dl_17 : decode code 17 = .ok (.newarray .long, 2) := by decide +kernel
theorem dl_19 : decode code 19 = .ok (.astore_n 3, 1) := by decide +kernel
theorem dl_20 : decode code 20 = .ok (.iconst 0, 1) := by decide +kernel
theorem dl_21 : decode code 21 = .ok (.istore 4, 2) := by decide +kernel
theorem dl_23 : decode code 23 = .ok (.iload 4, 2) := by decide +kernel
theorem dl_25 : decode code 25 = .ok (.aload_n 0, 1) := by decide +kernel
theorem dl_26 : decode code 26 = .ok (.arraylength, 1) := by decide +kernel
theorem dl_27 : decode code 27 = .ok (.iconst 4, 1) := by decide +kernel
theorem dl_28 : decode code 28 = .ok (.isub, 1) := by decide +kernel
theorem dl_29 : decode code 29 = .ok (.if_icmp .gt 428, 3) := by decide +kernel
theorem dl_32 : decode code 32 = .ok (.aload_n 0, 1) := by decide +kernel
theorem dl_33 : decode code 33 = .ok (.iload 4, 2) := by decide +kernel
theorem dl_35 : decode code 35 = .ok (.iaload, 1) := by decide +kernel
theorem dl_36 : decode code 36 = .ok (.bipush 15, 2) := by decide +kernel
theorem dl_38 : decode code 38 = .ok (.iand, 1) := by decide +kernel
theorem dl_39 : decode code 39 = .ok (.tableswitch 412 0 11 #[61, 110, 123, 136, 161, 174, 211, 280, 293, 306, 362, 387], 61) := by decide +kernel
theorem dl_100 : decode code 100 = .ok (.aload_n 1, 1) := by decide +kernel
theorem dl_101 : decode code 101 = .ok (.aload_n 0, 1) := by decide +kernel
theorem dl_102 : decode code 102 = .ok (.iload 4, 2) := by decide +kernel
theorem dl_104 : decode code 104 = .ok (.iconst 1, 1) := by decide +kernel
theorem dl_105 : decode code 105 = .ok (.iadd, 1) := by decide +kernel
theorem dl_106 : decode code 106 = .ok (.iaload, 1) := by decide +kernel
theorem dl_107 : decode code 107 = .ok (.aload_n 0, 1) := by decide +kernel
theorem dl_108 : decode code 108 = .ok (.iload 4, 2) := by decide +kernel
theorem dl_110 : decode code 110 = .ok (.iconst 2, 1) := by decide +kernel
theorem dl_111 : decode code 111 = .ok (.iadd, 1) := by decide +kernel
theorem dl_112 : decode code 112 = .ok (.iaload, 1) := by decide +kernel
theorem dl_113 : decode code 113 = .ok (.aload_n 0, 1) := by decide +kernel
theorem dl_114 : decode code 114 = .ok (.iload 4, 2) := by decide +kernel
theorem dl_116 : decode code 116 = .ok (.iconst 3, 1) := by decide +kernel
theorem dl_117 : decode code 117 = .ok (.iadd, 1) := by decide +kernel
theorem dl_118 : decode code 118 = .ok (.iaload, 1) := by decide +kernel
theorem dl_119 : decode code 119 = .ok (.invokevirtual 19, 3) := by decide +kernel
theorem dl_122 : decode code 122 = .ok (.aload_n 2, 1) := by decide +kernel
theorem dl_123 : decode code 123 = .ok (.aload_n 0, 1) := by decide +kernel
theorem dl_124 : decode code 124 = .ok (.iload 4, 2) := by decide +kernel
theorem dl_126 : decode code 126 = .ok (.iconst 1, 1) := by decide +kernel
theorem dl_127 : decode code 127 = .ok (.iadd, 1) := by decide +kernel
theorem dl_128 : decode code 128 = .ok (.iaload, 1) := by decide +kernel
theorem dl_129 : decode code 129 = .ok (.aload_n 0, 1) := by decide +kernel
theorem dl_130 : decode code 130 = .ok (.iload 4, 2) := by decide +kernel
theorem dl_132 : decode code 132 = .ok (.iconst 2, 1) := by decide +kernel
theorem dl_133 : decode code 133 = .ok (.iadd, 1) := by decide +kernel
theorem dl_134 : decode code 134 = .ok (.iaload, 1) := by decide +kernel
theorem dl_135 : decode code 135 = .ok (.aload_n 0, 1) := by decide +kernel
theorem dl_136 : decode code 136 = .ok (.iload 4, 2) := by decide +kernel
theorem dl_138 : decode code 138 = .ok (.iconst 3, 1) := by decide +kernel
theorem dl_139 : decode code 139 = .ok (.iadd, 1) := by decide +kernel
theorem dl_140 : decode code 140 = .ok (.iaload, 1) := by decide +kernel
theorem dl_141 : decode code 141 = .ok (.invokevirtual 23, 3) := by decide +kernel
theorem dl_144 : decode code 144 = .ok (.if_icmp .eq 307, 3) := by decide +kernel
theorem dl_147 : decode code 147 = .ok (.iconst 0, 1) := by decide +kernel
theorem dl_148 : decode code 148 = .ok (.ireturn, 1) := by decide +kernel
theorem dl_149 : decode code 149 = .ok (.aload_n 1, 1) := by decide +kernel
theorem dl_150 : decode code 150 = .ok (.invokevirtual 24, 3) := by decide +kernel
theorem dl_153 : decode code 153 = .ok (.aload_n 2, 1) := by decide +kernel
theorem dl_154 : decode code 154 = .ok (.invokevirtual 28, 3) := by decide +kernel
theorem dl_157 : decode code 157 = .ok (.if_icmp .eq 294, 3) := by decide +kernel
theorem dl_160 : decode code 160 = .ok (.iconst 0, 1) := by decide +kernel
theorem dl_161 : decode code 161 = .ok (.ireturn, 1) := by decide +kernel
theorem dl_162 : decode code 162 = .ok (.aload_n 1, 1) := by decide +kernel
theorem dl_163 : decode code 163 = .ok (.invokevirtual 29, 3) := by decide +kernel
theorem dl_166 : decode code 166 = .ok (.aload_n 2, 1) := by decide +kernel
theorem dl_167 : decode code 167 = .ok (.invokevirtual 33, 3) := by decide +kernel
theorem dl_170 : decode code 170 = .ok (.if_icmp .eq 281, 3) := by decide +kernel
theorem dl_173 : decode code 173 = .ok (.iconst 0, 1) := by decide +kernel
theorem dl_174 : decode code 174 = .ok (.ireturn, 1) := by decide +kernel
theorem dl_175 : decode code 175 = .ok (.aload_n 1, 1) := by decide +kernel
theorem dl_176 : decode code 176 = .ok (.aload_n 0, 1) := by decide +kernel
theorem dl_177 : decode code 177 = .ok (.iload 4, 2) := by decide +kernel
theorem dl_179 : decode code 179 = .ok (.iconst 1, 1) := by decide +kernel
theorem dl_180 : decode code 180 = .ok (.iadd, 1) := by decide +kernel
theorem dl_181 : decode code 181 = .ok (.iaload, 1) := by decide +kernel
theorem dl_182 : decode code 182 = .ok (.invokevirtual 34, 3) := by decide +kernel
theorem dl_185 : decode code 185 = .ok (.aload_n 2, 1) := by decide +kernel
theorem dl_186 : decode code 186 = .ok (.aload_n 0, 1) := by decide +kernel
theorem dl_187 : decode code 187 = .ok (.iload 4, 2) := by decide +kernel
theorem dl_189 : decode code 189 = .ok (.iconst 1, 1) := by decide +kernel
theorem dl_190 : decode code 190 = .ok (.iadd, 1) := by decide +kernel
theorem dl_191 : decode code 191 = .ok (.iaload, 1) := by decide +kernel
theorem dl_192 : decode code 192 = .ok (.invokevirtual 38, 3) := by decide +kernel
theorem dl_195 : decode code 195 = .ok (.if_icmp .eq 256, 3) := by decide +kernel
theorem dl_198 : decode code 198 = .ok (.iconst 0, 1) := by decide +kernel
theorem dl_199 : decode code 199 = .ok (.ireturn, 1) := by decide +kernel
theorem dl_200 : decode code 200 = .ok (.aload_n 1, 1) := by decide +kernel
theorem dl_201 : decode code 201 = .ok (.invokevirtual 39, 3) := by decide +kernel
theorem dl_204 : decode code 204 = .ok (.aload_n 2, 1) := by decide +kernel
theorem dl_205 : decode code 205 = .ok (.invokevirtual 42, 3) := by decide +kernel
theorem dl_208 : decode code 208 = .ok (.if_icmp .eq 243, 3) := by decide +kernel
theorem dl_211 : decode code 211 = .ok (.iconst 0, 1) := by decide +kernel
theorem dl_212 : decode code 212 = .ok (.ireturn, 1) := by decide +kernel
theorem dl_213 : decode code 213 = .ok (.aload_n 1, 1) := by decide +kernel
theorem dl_214 : decode code 214 = .ok (.aload_n 0, 1) := by decide +kernel
theorem dl_215 : decode code 215 = .ok (.iload 4, 2) := by decide +kernel
theorem dl_217 : decode code 217 = .ok (.iconst 1, 1) := by decide +kernel
theorem dl_218 : decode code 218 = .ok (.iadd, 1) := by decide +kernel
theorem dl_219 : decode code 219 = .ok (.iaload, 1) := by decide +kernel
theorem dl_220 : decode code 220 = .ok (.aload_n 0, 1) := by decide +kernel
theorem dl_221 : decode code 221 = .ok (.iload 4, 2) := by decide +kernel
theorem dl_223 : decode code 223 = .ok (.iconst 2, 1) := by decide +kernel
theorem dl_224 : decode code 224 = .ok (.iadd, 1) := by decide +kernel
theorem dl_225 : decode code 225 = .ok (.iaload, 1) := by decide +kernel
theorem dl_226 : decode code 226 = .ok (.invokevirtual 43, 3) := by decide +kernel
theorem dl_229 : decode code 229 = .ok (.aload_n 2, 1) := by decide +kernel
theorem dl_230 : decode code 230 = .ok (.aload_n 0, 1) := by decide +kernel
theorem dl_231 : decode code 231 = .ok (.iload 4, 2) := by decide +kernel
theorem dl_233 : decode code 233 = .ok (.iconst 1, 1) := by decide +kernel
theorem dl_234 : decode code 234 = .ok (.iadd, 1) := by decide +kernel
theorem dl_235 : decode code 235 = .ok (.iaload, 1) := by decide +kernel
theorem dl_236 : decode code 236 = .ok (.aload_n 0, 1) := by decide +kernel
theorem dl_237 : decode code 237 = .ok (.iload 4, 2) := by decide +kernel
theorem dl_239 : decode code 239 = .ok (.iconst 2, 1) := by decide +kernel
theorem dl_240 : decode code 240 = .ok (.iadd, 1) := by decide +kernel
theorem dl_241 : decode code 241 = .ok (.iaload, 1) := by decide +kernel
theorem dl_242 : decode code 242 = .ok (.invokevirtual 47, 3) := by decide +kernel
theorem dl_245 : decode code 245 = .ok (.if_icmp .eq 206, 3) := by decide +kernel
theorem dl_248 : decode code 248 = .ok (.iconst 0, 1) := by decide +kernel
theorem dl_249 : decode code 249 = .ok (.ireturn, 1) := by decide +kernel
theorem dl_250 : decode code 250 = .ok (.aload_n 1, 1) := by decide +kernel
theorem dl_251 : decode code 251 = .ok (.aload_n 0, 1) := by decide +kernel
theorem dl_252 : decode code 252 = .ok (.iload 4, 2) := by decide +kernel
theorem dl_254 : decode code 254 = .ok (.iconst 1, 1) := by decide +kernel
theorem dl_255 : decode code 255 = .ok (.iadd, 1) := by decide +kernel
theorem dl_256 : decode code 256 = .ok (.iaload, 1) := by decide +kernel
theorem dl_257 : decode code 257 = .ok (.i2l, 1) := by decide +kernel
theorem dl_258 : decode code 258 = .ok (.bipush 32, 2) := by decide +kernel
theorem dl_260 : decode code 260 = .ok (.lshl, 1) := by decide +kernel
theorem dl_261 : decode code 261 = .ok (.aload_n 0, 1) := by decide +kernel
theorem dl_262 : decode code 262 = .ok (.iload 4, 2) := by decide +kernel
theorem dl_264 : decode code 264 = .ok (.iconst 2, 1) := by decide +kernel
theorem dl_265 : decode code 265 = .ok (.iadd, 1) := by decide +kernel
theorem dl_266 : decode code 266 = .ok (.iaload, 1) := by decide +kernel
theorem dl_267 : decode code 267 = .ok (.i2l, 1) := by decide +kernel
theorem dl_268 : decode code 268 = .ok (.ldc2_w 48, 3) := by decide +kernel
theorem dl_271 : decode code 271 = .ok (.land, 1) := by decide +kernel
theorem dl_272 : decode code 272 = .ok (.lor, 1) := by decide +kernel
theorem dl_273 : decode code 273 = .ok (.aload_n 0, 1) := by decide +kernel
theorem dl_274 : decode code 274 = .ok (.iload 4, 2) := by decide +kernel
theorem dl_276 : decode code 276 = .ok (.iconst 3, 1) := by decide +kernel
theorem dl_277 : decode code 277 = .ok (.iadd, 1) := by decide +kernel
theorem dl_278 : decode code 278 = .ok (.iaload, 1) := by decide +kernel
theorem dl_279 : decode code 279 = .ok (.invokevirtual 50, 3) := by decide +kernel
theorem dl_282 : decode code 282 = .ok (.aload_n 2, 1) := by decide +kernel
theorem dl_283 : decode code 283 = .ok (.aload_n 0, 1) := by decide +kernel
theorem dl_284 : decode code 284 = .ok (.iload 4, 2) := by decide +kernel
theorem dl_286 : decode code 286 = .ok (.iconst 1, 1) := by decide +kernel
theorem dl_287 : decode code 287 = .ok (.iadd, 1) := by decide +kernel
theorem dl_288 : decode code 288 = .ok (.iaload, 1) := by decide +kernel
theorem dl_289 : decode code 289 = .ok (.i2l, 1) := by decide +kernel
theorem dl_290 : decode code 290 = .ok (.bipush 32, 2) := by decide +kernel
theorem dl_292 : decode code 292 = .ok (.lshl, 1) := by decide +kernel
theorem dl_293 : decode code 293 = .ok (.aload_n 0, 1) := by decide +kernel
theorem dl_294 : decode code 294 = .ok (.iload 4, 2) := by decide +kernel
theorem dl_296 : decode code 296 = .ok (.iconst 2, 1) := by decide +kernel
theorem dl_297 : decode code 297 = .ok (.iadd, 1) := by decide +kernel
theorem dl_298 : decode code 298 = .ok (.iaload, 1) := by decide +kernel
theorem dl_299 : decode code 299 = .ok (.i2l, 1) := by decide +kernel
theorem dl_300 : decode code 300 = .ok (.ldc2_w 48, 3) := by decide +kernel
theorem dl_303 : decode code 303 = .ok (.land, 1) := by decide +kernel
theorem dl_304 : decode code 304 = .ok (.lor, 1) := by decide +kernel
theorem dl_305 : decode code 305 = .ok (.aload_n 0, 1) := by decide +kernel
theorem dl_306 : decode code 306 = .ok (.iload 4, 2) := by decide +kernel
theorem dl_308 : decode code 308 = .ok (.iconst 3, 1) := by decide +kernel
theorem dl_309 : decode code 309 = .ok (.iadd, 1) := by decide +kernel
theorem dl_310 : decode code 310 = .ok (.iaload, 1) := by decide +kernel
theorem dl_311 : decode code 311 = .ok (.invokevirtual 54, 3) := by decide +kernel
theorem dl_314 : decode code 314 = .ok (.if_icmp .eq 137, 3) := by decide +kernel
theorem dl_317 : decode code 317 = .ok (.iconst 0, 1) := by decide +kernel
theorem dl_318 : decode code 318 = .ok (.ireturn, 1) := by decide +kernel
theorem dl_319 : decode code 319 = .ok (.aload_n 1, 1) := by decide +kernel
theorem dl_320 : decode code 320 = .ok (.invokevirtual 55, 3) := by decide +kernel
theorem dl_323 : decode code 323 = .ok (.aload_n 2, 1) := by decide +kernel
theorem dl_324 : decode code 324 = .ok (.invokevirtual 58, 3) := by decide +kernel
theorem dl_327 : decode code 327 = .ok (.if_icmp .eq 124, 3) := by decide +kernel
theorem dl_330 : decode code 330 = .ok (.iconst 0, 1) := by decide +kernel
theorem dl_331 : decode code 331 = .ok (.ireturn, 1) := by decide +kernel
theorem dl_332 : decode code 332 = .ok (.aload_n 1, 1) := by decide +kernel
theorem dl_333 : decode code 333 = .ok (.invokevirtual 59, 3) := by decide +kernel
theorem dl_336 : decode code 336 = .ok (.aload_n 2, 1) := by decide +kernel
theorem dl_337 : decode code 337 = .ok (.invokevirtual 62, 3) := by decide +kernel
theorem dl_340 : decode code 340 = .ok (.if_icmp .eq 111, 3) := by decide +kernel
theorem dl_343 : decode code 343 = .ok (.iconst 0, 1) := by decide +kernel
theorem dl_344 : decode code 344 = .ok (.ireturn, 1) := by decide +kernel
theorem dl_345 : decode code 345 = .ok (.aload_n 1, 1) := by decide +kernel
theorem dl_346 : decode code 346 = .ok (.aload_n 0, 1) := by decide +kernel
theorem dl_347 : decode code 347 = .ok (.iload 4, 2) := by decide +kernel
theorem dl_349 : decode code 349 = .ok (.iconst 1, 1) := by decide +kernel
theorem dl_350 : decode code 350 = .ok (.iadd, 1) := by decide +kernel
theorem dl_351 : decode code 351 = .ok (.iaload, 1) := by decide +kernel
theorem dl_352 : decode code 352 = .ok (.aload_n 3, 1) := by decide +kernel
theorem dl_353 : decode code 353 = .ok (.invokestatic 63, 3) := by decide +kernel
theorem dl_356 : decode code 356 = .ok (.istore 5, 2) := by decide +kernel
theorem dl_358 : decode code 358 = .ok (.aload_n 2, 1) := by decide +kernel
theorem dl_359 : decode code 359 = .ok (.aload_n 0, 1) := by decide +kernel
theorem dl_360 : decode code 360 = .ok (.iload 4, 2) := by decide +kernel
theorem dl_362 : decode code 362 = .ok (.iconst 1, 1) := by decide +kernel
theorem dl_363 : decode code 363 = .ok (.iadd, 1) := by decide +kernel
theorem dl_364 : decode code 364 = .ok (.iaload, 1) := by decide +kernel
theorem dl_365 : decode code 365 = .ok (.invokevirtual 68, 3) := by decide +kernel
theorem dl_368 : decode code 368 = .ok (.istore 6, 2) := by decide +kernel
theorem dl_370 : decode code 370 = .ok (.aload_n 2, 1) := by decide +kernel
theorem dl_371 : decode code 371 = .ok (.invokevirtual 69, 3) := by decide +kernel
theorem dl_374 : decode code 374 = .ok (.iload 5, 2) := by decide +kernel
theorem dl_376 : decode code 376 = .ok (.if_icmp .eq 5, 3) := by decide +kernel
theorem dl_379 : decode code 379 = .ok (.iconst 0, 1) := by decide +kernel
theorem dl_380 : decode code 380 = .ok (.ireturn, 1) := by decide +kernel
theorem dl_381 : decode code 381 = .ok (.iload 5, 2) := by decide +kernel
theorem dl_383 : decode code 383 = .ok (.ifCond .ne 15, 3) := by decide +kernel
theorem dl_386 : decode code 386 = .ok (.aload_n 3, 1) := by decide +kernel
theorem dl_387 : decode code 387 = .ok (.iconst 0, 1) := by decide +kernel
theorem dl_388 : decode code 388 = .ok (.laload, 1) := by decide +kernel
theorem dl_389 : decode code 389 = .ok (.iload 6, 2) := by decide +kernel
theorem dl_391 : decode code 391 = .ok (.i2l, 1) := by decide +kernel
theorem dl_392 : decode code 392 = .ok (.lcmp, 1) := by decide +kernel
theorem dl_393 : decode code 393 = .ok (.ifCond .eq 5, 3) := by decide +kernel
theorem dl_396 : decode code 396 = .ok (.iconst 0, 1) := by decide +kernel
theorem dl_397 : decode code 397 = .ok (.ireturn, 1) := by decide +kernel
theorem dl_398 : decode code 398 = .ok (.goto 53, 3) := by decide +kernel
theorem dl_401 : decode code 401 = .ok (.aload_n 1, 1) := by decide +kernel
theorem dl_402 : decode code 402 = .ok (.aload_n 0, 1) := by decide +kernel
theorem dl_403 : decode code 403 = .ok (.iload 4, 2) := by decide +kernel
theorem dl_405 : decode code 405 = .ok (.iconst 1, 1) := by decide +kernel
theorem dl_406 : decode code 406 = .ok (.iadd, 1) := by decide +kernel
theorem dl_407 : decode code 407 = .ok (.iaload, 1) := by decide +kernel
theorem dl_408 : decode code 408 = .ok (.invokevirtual 72, 3) := by decide +kernel
theorem dl_411 : decode code 411 = .ok (.aload_n 2, 1) := by decide +kernel
theorem dl_412 : decode code 412 = .ok (.aload_n 0, 1) := by decide +kernel
theorem dl_413 : decode code 413 = .ok (.iload 4, 2) := by decide +kernel
theorem dl_415 : decode code 415 = .ok (.iconst 1, 1) := by decide +kernel
theorem dl_416 : decode code 416 = .ok (.iadd, 1) := by decide +kernel
theorem dl_417 : decode code 417 = .ok (.iaload, 1) := by decide +kernel
theorem dl_418 : decode code 418 = .ok (.invokevirtual 75, 3) := by decide +kernel
theorem dl_421 : decode code 421 = .ok (.if_icmp .eq 30, 3) := by decide +kernel
theorem dl_424 : decode code 424 = .ok (.iconst 0, 1) := by decide +kernel
theorem dl_425 : decode code 425 = .ok (.ireturn, 1) := by decide +kernel
theorem dl_426 : decode code 426 = .ok (.aload_n 1, 1) := by decide +kernel
theorem dl_427 : decode code 427 = .ok (.aload_n 0, 1) := by decide +kernel
theorem dl_428 : decode code 428 = .ok (.iload 4, 2) := by decide +kernel
theorem dl_430 : decode code 430 = .ok (.iconst 1, 1) := by decide +kernel
theorem dl_431 : decode code 431 = .ok (.iadd, 1) := by decide +kernel
theorem dl_432 : decode code 432 = .ok (.iaload, 1) := by decide +kernel
theorem dl_433 : decode code 433 = .ok (.invokevirtual 76, 3) := by decide +kernel
theorem dl_436 : decode code 436 = .ok (.aload_n 2, 1) := by decide +kernel
theorem dl_437 : decode code 437 = .ok (.aload_n 0, 1) := by decide +kernel
theorem dl_438 : decode code 438 = .ok (.iload 4, 2) := by decide +kernel
theorem dl_440 : decode code 440 = .ok (.iconst 1, 1) := by decide +kernel
theorem dl_441 : decode code 441 = .ok (.iadd, 1) := by decide +kernel
theorem dl_442 : decode code 442 = .ok (.iaload, 1) := by decide +kernel
theorem dl_443 : decode code 443 = .ok (.invokevirtual 79, 3) := by decide +kernel
theorem dl_446 : decode code 446 = .ok (.if_icmp .eq 5, 3) := by decide +kernel
theorem dl_449 : decode code 449 = .ok (.iconst 0, 1) := by decide +kernel
theorem dl_450 : decode code 450 = .ok (.ireturn, 1) := by decide +kernel
theorem dl_451 : decode code 451 = .ok (.iinc 4 4, 3) := by decide +kernel
theorem dl_454 : decode code 454 = .ok (.goto (-431), 3) := by decide +kernel
theorem dl_457 : decode code 457 = .ok (.iconst 1, 1) := by decide +kernel
theorem dl_458 : decode code 458 = .ok (.ireturn, 1) := by decide +kernel
def lwA (s : State) (q : Nat) : Prop := s.heap.size ≤ q
/-- the law's world: its array of one long, the class's cells, the reference's -/
def LWd (cA cL : ClassId) (aX aF aB aL aP aJ aM aG : Nat) (st : St) (mm : Ms) (f : Nat → Int64) : va_W := [(aJ, .inl (cL, 1, .inr (.inl f)))] ++ CW cA aX aF aB aL aP st ++ MW cA aM aG mm
abbrev lw_long (x y : Int32) : Int64 := (x.toInt64 <<< ((32 : Int32).toInt64 &&& 63)) ||| (y.toInt64 &&& 4294967295)
theorem rl_okX {s : St} {m : Ms} (h : Rl s m) (ho : copen s = true) : PtOk s := (h.2.2.2.2.2 (of_decide_eq_true ho).1).2
theorem rl_okM {s : St} {m : Ms} (h : Rl s m) (ho : ¬ m.2.2.2.2.1 = 0) : PtOkM m := by
  obtain ⟨h1, h2, h3, h4, h5, h6⟩ := h
  obtain ⟨hp, Ln, n, q, k1, k2, k3, k⟩ := h6 (by rw [h3]; exact ho)
  exact ⟨Ln, n, q, by rw [← hp.2.1]; exact k1, by rw [← hp.2.2.1]; exact k2, by rw [← hp.2.2.2.1]; exact k3, k⟩
theorem lg_cmp_self (x : Int64) : lg_cmp x x = 0 := by
  simp [lg_cmp]
theorem mb_in {v : Int32} {m : Ms} (h : ¬ v < 0 ∧ ¬ 240 ≤ v) : mbyte v m = (m.1.1.1 v.toNatClampNeg, mr0 m) := if_pos h
theorem mb_no {v : Int32} {m : Ms} (h : ¬ (¬ v < 0 ∧ ¬ 240 ≤ v)) : mbyte v m = (0, (m.1, (1, m.2.1.2.1, m.2.1.2.2), m.2.2)) := if_neg h
